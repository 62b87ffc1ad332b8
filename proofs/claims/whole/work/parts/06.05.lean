def m_X13_faulty (p1 : Int) (p2 : Int) (σ : xS) : Option xS :=
  if (zI (σ 184 12)) = 0 then xlet (xput σ 184 12 p1) fun s2 => xlet (xput s2 184 13 p2) fun s3 => some s3 else some σ
set_option maxHeartbeats 4000000 in
set_option maxRecDepth 100000 in
theorem wk_X13_faulty {X : xX} {Qf : xS → State → Prop} {p1 : Int} {p2 : Int} {σ : xS} (C : xCx X cX13_faulty "BakeryNightModel" none { frames := 0, cells := 0, slots := 0, locals := 0 } 3) (hQ : ∀ τ, Qf τ = xQf X WW (none, τ))  : WO X Qf WW σ 0 [(0, .ref (xqa (xXE X).2.2 184)), (1, iV p1), (2, iV p2)] [] (m_X13_faulty p1 p2 σ) := by
  unfold m_X13_faulty
  refine x_aload_n C 0 dX13_faulty_0 rfl rfl ?_
  refine x_get (v := iV (σ 184 12)) C 12 cls_X13 at_X13 (by decide) wd1514 rfl rfl dX13_faulty_1 ?_
  refine x_if_eq C 8 rfl dX13_faulty_4 rfl (fun c1 => x_op c1 ?_) (fun c1 => x_on c1 ?_)
  · refine x_aload_n C 0 dX13_faulty_8 rfl rfl ?_
    refine x_iload_n C 1 dX13_faulty_9 rfl rfl ?_
    refine x_put C 12 p1 cls_X13 at_X13 (by decide) wd1514 rfl rfl rfl rfl (xV_pI rfl) dX13_faulty_10 ?_
    refine x_letS (fun s2 => ?_)
    refine x_aload_n C 0 dX13_faulty_13 rfl rfl ?_
    refine x_iload_n C 2 dX13_faulty_14 rfl rfl ?_
    refine x_put C 13 p2 cls_X13 at_X13 (by decide) wd1515 rfl rfl rfl rfl (xV_pI rfl) dX13_faulty_15 ?_
    refine x_letS (fun s3 => ?_)
    exact x_vretQ C (hQ _) rfl dX13_faulty_18
  · exact x_vretQ C (hQ _) rfl dX13_faulty_7
theorem ct_X13_faulty (l : Launch) (E : xE) (p1 : Int) (p2 : Int) (σ : xS)   : xMet l E yX13_faulty cX13_faulty 3 none { frames := 0, cells := 0, slots := 0, locals := 0 } [.ref (xqa E.2.2 184), iV p1, iV p2] WW WW σ (xrV (m_X13_faulty p1 p2 σ)) := by
  refine xMet.of0 (by decide) (Nat.le_of_ble_eq_true rfl) rfl rfl (fun X hE C => ?_)
  subst hE
  exact xMap (fun q => (none, q)) (wk_X13_faulty C (fun _ => rfl) )
theorem mt_X13_faulty : xMth yX13_faulty cX13_faulty 3 none 2 := ⟨wd1753, wd164, ⟨by decide, by decide, rfl⟩⟩
theorem vr_X13_faulty : xVir yX13_faulty := ⟨wd1752, wd63⟩
def m_X13_wordLength (n : Nat) (σ : xS) : Option Int :=
  loopF (fun rec2 (t1 : Int) => (m_X13_byteAt ((σ 184 11) + t1) σ).bind fun v4 => if (m_X13_isLetter v4) = 0 then some t1 else xlet (t1 + 1) fun v6 => rec2 v6) n 0
set_option maxHeartbeats 4000000 in
set_option maxRecDepth 100000 in
theorem wk_X13_wordLength {X : xX} {Qf : Int → State → Prop} {n : Nat} {σ : xS} (C : xCx X cX13_wordLength "BakeryNightModel" (some .int) { frames := 2, cells := 0, slots := 0, locals := 47 } 2) (hQ : ∀ v, Qf v = xQf X WW (some (iV v), σ))  : WO X Qf WW σ 0 [(0, .ref (xqa (xXE X).2.2 184))] [] (m_X13_wordLength n σ) := by
  unfold m_X13_wordLength
  refine x_iconst C (0) dX13_wordLength_0 rfl ?_
  refine x_istore_n (L' := [(1, _), (0, _)]) C dX13_wordLength_1 rfl (by decide) rfl ?_
  refine x_pick [1, 0] rfl ?_
  refine x_loop (fun t1 : Int => σ) (fun t1 : Int => [(0, .ref (xqa (xXE X).2.2 184)), (1, iV t1)]) (fun rec2 hr3 t1 => ?_) n 0
  refine x_aload_n C 0 dX13_wordLength_2 rfl rfl ?_
  refine x_aload_n C 0 dX13_wordLength_3 rfl rfl ?_
  refine x_aload_n C 0 dX13_wordLength_4 rfl rfl ?_
  refine x_get (v := iV (σ 184 11)) C 11 cls_X13 at_X13 (by decide) wd1513 rfl rfl dX13_wordLength_5 ?_
  refine x_iload_n C 1 dX13_wordLength_8 rfl rfl ?_
  refine x_iadd C dX13_wordLength_9 ?_
  refine x_callV C (ct_X13_byteAt _ _ ((σ 184 11) + t1) σ) mt_X13_byteAt vr_X13_byteAt wd1696 cls_X13 at_X13 rfl ⟨rfl, rfl, Nat.le_of_ble_eq_true rfl, Nat.le_of_ble_eq_true rfl⟩ rfl (Nat.le_of_ble_eq_true rfl) dX13_wordLength_10 (kI (fun v4 => ?_))
  refine x_callV C (ct_X13_isLetter _ _ v4 σ) mt_X13_isLetter vr_X13_isLetter wd1721 cls_X13 at_X13 rfl ⟨rfl, rfl, Nat.le_of_ble_eq_true rfl, Nat.le_of_ble_eq_true rfl⟩ rfl (by decide) dX13_wordLength_13 (kP ?_)
  refine x_if_eq C 26 (zI_bo (bo_X13_isLetter _)) dX13_wordLength_16 rfl (fun c5 => x_op c5 ?_) (fun c5 => x_on c5 ?_)
  · refine x_iload_n C 1 dX13_wordLength_26 rfl rfl ?_
    exact x_iretQ C (hQ _) rfl dX13_wordLength_27
  · refine x_iload_n C 1 dX13_wordLength_19 rfl rfl ?_
    refine x_iconst C (1) dX13_wordLength_20 rfl ?_
    refine x_iadd C dX13_wordLength_21 ?_
    refine x_letI (fun v6 => ?_)
    refine x_istore_n (L' := [(1, _), (0, _)]) C dX13_wordLength_22 rfl (by decide) rfl ?_
    refine x_goto C 2 dX13_wordLength_23 rfl ?_
    refine x_pick [1, 0] rfl ?_
    exact hr3 v6
theorem ct_X13_wordLength (l : Launch) (E : xE) (n : Nat) (σ : xS)   : xMet l E yX13_wordLength cX13_wordLength 2 (some .int) { frames := 2, cells := 0, slots := 0, locals := 47 } [.ref (xqa E.2.2 184)] WW WW σ (xrI (m_X13_wordLength n σ) σ) := by
  refine xMet.of0 (by decide) (Nat.le_of_ble_eq_true rfl) rfl rfl (fun X hE C => ?_)
  subst hE
  exact xMap (fun v => (some (iV v), σ)) (wk_X13_wordLength C (fun _ => rfl) )
theorem mt_X13_wordLength : xMth yX13_wordLength cX13_wordLength 2 (some .int) 0 := ⟨wd1720, wd164, ⟨by decide, by decide, rfl⟩⟩
theorem vr_X13_wordLength : xVir yX13_wordLength := ⟨wd1719, wd58⟩
def m_X13_number (n : Nat) (p1 : Int) (p2 : Int) (σ : xS) : Option (Int × xS) :=
  if (m_X13_fine σ) = 0 then some (p1, σ) else xlet (σ 184 11) fun v2 => loopF (fun rec4 (t3 : Int × xS) => (m_X13_here t3.2).bind fun v6 => if (m_X13_isIn (zI v6) 48 57) = 0 then xj (fun (q12 : xS) => xj (fun (q16 : xS) => (m_X13_skips n q16).bind fun s17 => xlet (if (m_X13_fine s17) = 0 then p1 else t3.1) fun v18 => some (v18, s17)) fun J14 => if (m_X13_isIn (zI t3.1) (zI p1) (zI p2)) = 0 then (m_X13_faulty 2 v2 q12).bind fun s22 => J14 s22 else J14 q12) fun J10 => xj (fun (q25 : Unit) => (m_X13_faulty 1 v2 t3.2).bind fun s26 => J10 s26) fun J23 => if (zI (t3.2 184 11)) = (zI v2) then J23 () else if (zI ((t3.2 184 11) - v2)) ≤ 4 then J10 t3.2 else J23 () else xj (fun (q32 : Int) => xlet (xput t3.2 184 11 ((t3.2 184 11) + 1)) fun s33 => rec4 (q32, s33)) fun J30 => if 4 ≤ (zI ((t3.2 184 11) - v2)) then J30 t3.1 else (m_X13_here t3.2).bind fun v35 => xlet (((10 * t3.1) + v35) - 48) fun v36 => J30 v36) n (0, σ)
set_option maxHeartbeats 4000000 in
set_option maxRecDepth 100000 in
theorem wk_X13_number {X : xX} {Qf : (Int × xS) → State → Prop} {n : Nat} {p1 : Int} {p2 : Int} {σ : xS} (C : xCx X cX13_number "BakeryNightModel" (some .int) { frames := 3, cells := 0, slots := 0, locals := 61 } 5) (hQ : ∀ v τ, Qf (v, τ) = xQf X WW (some (iV v), τ))  : WO X Qf WW σ 0 [(0, .ref (xqa (xXE X).2.2 184)), (1, iV p1), (2, iV p2)] [] (m_X13_number n p1 p2 σ) := by
  unfold m_X13_number
  refine x_aload_n C 0 dX13_number_0 rfl rfl ?_
  refine x_callV C (ct_X13_fine _ _ σ) mt_X13_fine vr_X13_fine wd1700 cls_X13 at_X13 rfl ⟨rfl, rfl, Nat.le_of_ble_eq_true rfl, Nat.le_of_ble_eq_true rfl⟩ rfl (by decide) dX13_number_1 (kP ?_)
  refine x_if_ne C 9 (zI_bo (bo_X13_fine _)) dX13_number_4 rfl (fun c1 => x_on c1 ?_) (fun c1 => x_op c1 ?_)
  · refine x_aload_n C 0 dX13_number_9 rfl rfl ?_
    refine x_get (v := iV (σ 184 11)) C 11 cls_X13 at_X13 (by decide) wd1513 rfl rfl dX13_number_10 ?_
    refine x_letI (fun v2 => ?_)
    refine x_istore_n (L' := [(3, _), (0, _), (1, _), (2, _)]) C dX13_number_13 rfl (by decide) rfl ?_
    refine x_iconst C (0) dX13_number_14 rfl ?_
    refine x_istore (L' := [(4, _), (3, _), (0, _), (1, _), (2, _)]) C dX13_number_15 (by decide) rfl ?_
    refine x_pick [2, 3, 4, 1, 0] rfl ?_
    refine x_loop (fun t3 : Int × xS => t3.2) (fun t3 : Int × xS => [(0, .ref (xqa (xXE X).2.2 184)), (1, iV p1), (2, iV p2), (3, iV v2), (4, iV t3.1)]) (fun rec4 hr5 t3 => ?_) n (0, σ)
    refine x_aload_n C 0 dX13_number_17 rfl rfl ?_
    refine x_aload_n C 0 dX13_number_18 rfl rfl ?_
    refine x_callV C (ct_X13_here _ _ t3.2) mt_X13_here vr_X13_here wd1692 cls_X13 at_X13 rfl ⟨rfl, rfl, Nat.le_of_ble_eq_true rfl, Nat.le_of_ble_eq_true rfl⟩ rfl (Nat.le_of_ble_eq_true rfl) dX13_number_19 (kI (fun v6 => ?_))
    refine x_i2l C dX13_number_22 ?_
    refine x_ldc2 C (48) wd1762 rfl dX13_number_23 ?_
    refine x_ldc2 C (57) wd1763 rfl dX13_number_26 ?_
    refine x_callV C (ct_X13_isIn _ _ (zI v6) 48 57 t3.2) mt_X13_isIn vr_X13_isIn wd1680 cls_X13 at_X13 rfl ⟨rfl, rfl, Nat.le_of_ble_eq_true rfl, Nat.le_of_ble_eq_true rfl⟩ rfl (by decide) dX13_number_29 (kP ?_)
    refine x_if_eq C 73 (zI_bo (bo_X13_isIn _ _ _)) dX13_number_32 rfl (fun c7 => x_op c7 ?_) (fun c7 => x_on c7 ?_)
    · refine x_aload_n C 0 dX13_number_73 rfl rfl ?_
      refine x_get (v := iV (t3.2 184 11)) C 11 cls_X13 at_X13 (by decide) wd1513 rfl rfl dX13_number_74 ?_
      refine x_iload_n C 3 dX13_number_77 rfl rfl ?_
      refine x_join (fun J => ∀ q12 : xS, WO X Qf WW q12 97 [(0, .ref (xqa (xXE X).2.2 184)), (1, iV p1), (2, iV p2), (3, iV v2), (4, iV t3.1)] [] (J q12)) ?_ ?_
      · intro q12
        refine x_aload_n C 0 dX13_number_97 rfl rfl ?_
        refine x_iload C 4 dX13_number_98 rfl ?_
        refine x_i2l C dX13_number_100 ?_
        refine x_iload_n C 1 dX13_number_101 rfl rfl ?_
        refine x_i2l C dX13_number_102 ?_
        refine x_iload_n C 2 dX13_number_103 rfl rfl ?_
        refine x_i2l C dX13_number_104 ?_
        refine x_callV C (ct_X13_isIn _ _ (zI t3.1) (zI p1) (zI p2) q12) mt_X13_isIn vr_X13_isIn wd1680 cls_X13 at_X13 rfl ⟨rfl, rfl, Nat.le_of_ble_eq_true rfl, Nat.le_of_ble_eq_true rfl⟩ rfl (by decide) dX13_number_105 (kP ?_)
        refine x_join (fun J => ∀ q16 : xS, WO X Qf WW q16 117 [(0, .ref (xqa (xXE X).2.2 184)), (1, iV p1), (4, iV t3.1)] [] (J q16)) ?_ ?_
        · intro q16
          refine x_aload_n C 0 dX13_number_117 rfl rfl ?_
          refine x_callV C (ct_X13_skips _ _ n q16) mt_X13_skips vr_X13_skips wd1688 cls_X13 at_X13 rfl ⟨rfl, rfl, Nat.le_of_ble_eq_true rfl, Nat.le_of_ble_eq_true rfl⟩ rfl (by decide) dX13_number_118 (kV (fun s17 => ?_))
          refine x_aload_n C 0 dX13_number_121 rfl rfl ?_
          refine x_callV C (ct_X13_fine _ _ s17) mt_X13_fine vr_X13_fine wd1700 cls_X13 at_X13 rfl ⟨rfl, rfl, Nat.le_of_ble_eq_true rfl, Nat.le_of_ble_eq_true rfl⟩ rfl (by decide) dX13_number_122 (kP ?_)
          refine x_tree 134 [] (fun v18 => ?_) (fun hJ19 => ?_)
          · exact x_iretQ C (hQ _ _) rfl dX13_number_134
          · refine x_if_eq C 133 (zI_bo (bo_X13_fine _)) dX13_number_125 rfl (fun c20 => ?_) (fun c20 => ?_)
            · refine x_iload_n C 1 dX13_number_133 rfl rfl ?_
              exact hJ19 _ (by rw [if_pos c20])
            · refine x_iload C 2 dX13_number_128 rfl ?_
              refine x_goto C 134 dX13_number_130 rfl ?_
              exact hJ19 _ (by rw [if_neg c20])
        · intro J14 hJ15
          refine x_if_ne C 117 (zI_bo (bo_X13_isIn _ _ _)) dX13_number_108 rfl (fun c21 => x_on c21 ?_) (fun c21 => x_op c21 ?_)
          · refine x_pick [0, 1, 4] rfl ?_
            exact hJ15 q12
          · refine x_aload_n C 0 dX13_number_111 rfl rfl ?_
            refine x_iconst C (2) dX13_number_112 rfl ?_
            refine x_iload_n C 3 dX13_number_113 rfl rfl ?_
            refine x_callV C (ct_X13_faulty _ _ 2 v2 q12) mt_X13_faulty vr_X13_faulty wd1750 cls_X13 at_X13 rfl ⟨rfl, rfl, Nat.le_of_ble_eq_true rfl, Nat.le_of_ble_eq_true rfl⟩ rfl (by decide) dX13_number_114 (kV (fun s22 => ?_))
            refine x_pick [0, 1, 4] rfl ?_
            exact hJ15 s22
      · intro J10 hJ11
        refine x_join (fun J => ∀ q25 : Unit, WO X Qf WW t3.2 91 [(0, .ref (xqa (xXE X).2.2 184)), (1, iV p1), (2, iV p2), (3, iV v2), (4, iV t3.1)] [] (J q25)) ?_ ?_
        · intro q25
          refine x_aload_n C 0 dX13_number_91 rfl rfl ?_
          refine x_iconst C (1) dX13_number_92 rfl ?_
          refine x_iload_n C 3 dX13_number_93 rfl rfl ?_
          refine x_callV C (ct_X13_faulty _ _ 1 v2 t3.2) mt_X13_faulty vr_X13_faulty wd1750 cls_X13 at_X13 rfl ⟨rfl, rfl, Nat.le_of_ble_eq_true rfl, Nat.le_of_ble_eq_true rfl⟩ rfl (by decide) dX13_number_94 (kV (fun s26 => ?_))
          refine x_pick [0, 1, 2, 3, 4] rfl ?_
          exact hJ11 s26
        · intro J23 hJ24
          refine x_icmp_eq C 91 rfl rfl dX13_number_78 rfl (fun c27 => x_op c27 ?_) (fun c27 => x_on c27 ?_)
          · refine x_pick [0, 1, 2, 3, 4] rfl ?_
            exact hJ24 ()
          · refine x_aload_n C 0 dX13_number_81 rfl rfl ?_
            refine x_get (v := iV (t3.2 184 11)) C 11 cls_X13 at_X13 (by decide) wd1513 rfl rfl dX13_number_82 ?_
            refine x_iload_n C 3 dX13_number_85 rfl rfl ?_
            refine x_isub C dX13_number_86 ?_
            refine x_iconst C (4) dX13_number_87 rfl ?_
            refine x_icmp_le C 97 rfl (zIl _ rfl) dX13_number_88 rfl (fun c28 => x_op c28 ?_) (fun c28 => x_on c28 ?_)
            · refine x_pick [0, 1, 2, 3, 4] rfl ?_
              exact hJ11 t3.2
            · refine x_pick [0, 1, 2, 3, 4] rfl ?_
              exact hJ24 ()
    · refine x_aload_n C 0 dX13_number_35 rfl rfl ?_
      refine x_get (v := iV (t3.2 184 11)) C 11 cls_X13 at_X13 (by decide) wd1513 rfl rfl dX13_number_36 ?_
      refine x_iload_n C 3 dX13_number_39 rfl rfl ?_
      refine x_isub C dX13_number_40 ?_
      refine x_iconst C (4) dX13_number_41 rfl ?_
      refine x_join (fun J => ∀ q32 : Int, WO X Qf WW t3.2 60 [(0, .ref (xqa (xXE X).2.2 184)), (1, iV p1), (2, iV p2), (3, iV v2), (4, iV q32)] [] (J q32)) ?_ ?_
      · intro q32
        refine x_aload_n C 0 dX13_number_60 rfl rfl ?_
        refine x_aload_n C 0 dX13_number_61 rfl rfl ?_
        refine x_get (v := iV (t3.2 184 11)) C 11 cls_X13 at_X13 (by decide) wd1513 rfl rfl dX13_number_62 ?_
        refine x_iconst C (1) dX13_number_65 rfl ?_
        refine x_iadd C dX13_number_66 ?_
        refine x_put C 11 ((t3.2 184 11) + 1) cls_X13 at_X13 (by decide) wd1513 rfl rfl rfl rfl (xV_pI rfl) dX13_number_67 ?_
        refine x_letS (fun s33 => ?_)
        refine x_goto C 17 dX13_number_70 rfl ?_
        refine x_pick [0, 1, 2, 3, 4] rfl ?_
        exact hr5 (q32, s33)
      · intro J30 hJ31
        refine x_icmp_ge C 60 rfl (zIl _ rfl) dX13_number_42 rfl (fun c34 => x_op c34 ?_) (fun c34 => x_on c34 ?_)
        · refine x_pick [0, 1, 2, 3, 4] rfl ?_
          exact hJ31 t3.1
        · refine x_bipush C (10) dX13_number_45 rfl ?_
          refine x_iload C 4 dX13_number_47 rfl ?_
          refine x_imul C dX13_number_49 ?_
          refine x_aload_n C 0 dX13_number_50 rfl rfl ?_
          refine x_callV C (ct_X13_here _ _ t3.2) mt_X13_here vr_X13_here wd1692 cls_X13 at_X13 rfl ⟨rfl, rfl, Nat.le_of_ble_eq_true rfl, Nat.le_of_ble_eq_true rfl⟩ rfl (Nat.le_of_ble_eq_true rfl) dX13_number_51 (kI (fun v35 => ?_))
          refine x_iadd C dX13_number_54 ?_
          refine x_bipush C (48) dX13_number_55 rfl ?_
          refine x_isub C dX13_number_57 ?_
          refine x_letI (fun v36 => ?_)
          refine x_istore (L' := [(4, _), (0, _), (1, _), (2, _), (3, _)]) C dX13_number_58 (by decide) rfl ?_
          refine x_pick [1, 2, 3, 4, 0] rfl ?_
          exact hJ31 v36
  · refine x_iload_n C 1 dX13_number_7 rfl rfl ?_
    exact x_iretQ C (hQ _ _) rfl dX13_number_8
theorem ct_X13_number (l : Launch) (E : xE) (n : Nat) (p1 : Int) (p2 : Int) (σ : xS)   : xMet l E yX13_number cX13_number 5 (some .int) { frames := 3, cells := 0, slots := 0, locals := 61 } [.ref (xqa E.2.2 184), iV p1, iV p2] WW WW σ (xrS (m_X13_number n p1 p2 σ)) := by
  refine xMet.of0 (by decide) (Nat.le_of_ble_eq_true rfl) rfl rfl (fun X hE C => ?_)
  subst hE
  exact xMap (fun q => (some (iV q.1), q.2)) (wk_X13_number C (fun _ _ => rfl) )
theorem mt_X13_number : xMth yX13_number cX13_number 5 (some .int) 2 := ⟨wd1761, wd164, ⟨by decide, by decide, rfl⟩⟩
theorem vr_X13_number : xVir yX13_number := ⟨wd1760, wd65⟩
def m_X13_placeOf (n : Nat) (k1 z1 : Nat) (p2 : Int) (p3 : Int) (σ : xS) : Option Int :=
  loopF (fun rec2 (t1 : Int) => if (zI p2) ≤ (zI t1) then some (-1) else xck (zI t1) z1 <| if (zI (zcmp (σ k1 (zI t1).toNat) p3)) = 0 then some t1 else xlet (t1 + 1) fun v6 => rec2 v6) n 0
set_option maxHeartbeats 4000000 in
set_option maxRecDepth 100000 in
theorem wk_X13_placeOf {X : xX} {Qf : Int → State → Prop} {n : Nat} {k1 z1 : Nat} {p2 : Int} {p3 : Int} {σ : xS} (C : xCx X cX13_placeOf "BakeryNightModel" (some .int) { frames := 0, cells := 0, slots := 0, locals := 0 } 6) (hQ : ∀ v, Qf v = xQf X WW (some (iV v), σ)) (hk1 : xAt WW k1 1 z1) : WO X Qf WW σ 0 [(0, .ref (xqa (xXE X).2.2 184)), (1, .ref (xqa (xXE X).2.2 k1)), (2, iV p2), (3, jV p3)] [] (m_X13_placeOf n k1 z1 p2 p3 σ) := by
  unfold m_X13_placeOf
  refine x_iconst C (0) dX13_placeOf_0 rfl ?_
  refine x_istore (L' := [(5, _), (0, _), (1, _), (2, _), (3, _)]) C dX13_placeOf_1 (by decide) rfl ?_
  refine x_pick [2, 3, 4, 0] rfl ?_
  refine x_loop (fun t1 : Int => σ) (fun t1 : Int => [(1, .ref (xqa (xXE X).2.2 k1)), (2, iV p2), (3, jV p3), (5, iV t1)]) (fun rec2 hr3 t1 => ?_) n 0
  refine x_iload C 3 dX13_placeOf_3 rfl ?_
  refine x_iload_n C 1 dX13_placeOf_5 rfl rfl ?_
  refine x_icmp_ge C 27 rfl rfl dX13_placeOf_6 rfl (fun c4 => x_op c4 ?_) (fun c4 => x_on c4 ?_)
  · refine x_iconst C (-1) dX13_placeOf_27 rfl ?_
    exact x_iretQ C (hQ _) rfl dX13_placeOf_28
  · refine x_aload_n C 0 dX13_placeOf_9 rfl rfl ?_
    refine x_iload C 3 dX13_placeOf_10 rfl ?_
    refine x_lald C hk1 rfl dX13_placeOf_12 (fun _ => ?_)
    refine x_lload_n C 2 dX13_placeOf_13 rfl rfl ?_
    refine x_lcmp C dX13_placeOf_14 ?_
    refine x_if_ne C 21 rfl dX13_placeOf_15 rfl (fun c5 => x_on c5 ?_) (fun c5 => x_op c5 ?_)
    · refine x_inc C 3 (f := _) dX13_placeOf_21 rfl (by decide) (1) rfl (fun v6 => ?_)
      refine x_reL (L' := [(5, _), (1, _), (2, _), (3, _)]) rfl ?_
      refine x_goto C 3 dX13_placeOf_24 rfl ?_
      refine x_pick [1, 2, 3, 0] rfl ?_
      exact hr3 v6
    · refine x_iload C 3 dX13_placeOf_18 rfl ?_
      exact x_iretQ C (hQ _) rfl dX13_placeOf_20
theorem ct_X13_placeOf (l : Launch) (E : xE) (n : Nat) (k1 z1 : Nat) (p2 : Int) (p3 : Int) (σ : xS) (hk1 : xAt WW k1 1 z1)  : xMet l E yX13_placeOf cX13_placeOf 6 (some .int) { frames := 0, cells := 0, slots := 0, locals := 0 } [.ref (xqa E.2.2 184), .ref (xqa E.2.2 k1), iV p2, jV p3] WW WW σ (xrI (m_X13_placeOf n k1 z1 p2 p3 σ) σ) := by
  refine xMet.of0 (by decide) (Nat.le_of_ble_eq_true rfl) rfl rfl (fun X hE C => ?_)
  subst hE
  exact xMap (fun v => (some (iV v), σ)) (wk_X13_placeOf C (fun _ => rfl) hk1)
theorem mt_X13_placeOf : xMth yX13_placeOf cX13_placeOf 6 (some .int) 3 := ⟨wd1806, wd164, ⟨by decide, by decide, rfl⟩⟩
theorem vr_X13_placeOf : xVir yX13_placeOf := ⟨wd1805, wd72⟩
def m_X13_semicolon (n : Nat) (σ : xS) : Option xS :=
  if (m_X13_fine σ) = 0 then some σ else (m_X13_here σ).bind fun v2 => if (zI v2) = 59 then xlet (xput σ 184 11 ((σ 184 11) + 1)) fun s4 => (m_X13_skips n s4).bind fun s5 => some s5 else (m_X13_faulty 1 (σ 184 11) σ).bind fun s6 => some s6
set_option maxHeartbeats 4000000 in
set_option maxRecDepth 100000 in
theorem wk_X13_semicolon {X : xX} {Qf : xS → State → Prop} {n : Nat} {σ : xS} (C : xCx X cX13_semicolon "BakeryNightModel" none { frames := 3, cells := 0, slots := 0, locals := 61 } 1) (hQ : ∀ τ, Qf τ = xQf X WW (none, τ))  : WO X Qf WW σ 0 [(0, .ref (xqa (xXE X).2.2 184))] [] (m_X13_semicolon n σ) := by
  unfold m_X13_semicolon
  refine x_aload_n C 0 dX13_semicolon_0 rfl rfl ?_
  refine x_callV C (ct_X13_fine _ _ σ) mt_X13_fine vr_X13_fine wd1700 cls_X13 at_X13 rfl ⟨rfl, rfl, Nat.le_of_ble_eq_true rfl, Nat.le_of_ble_eq_true rfl⟩ rfl (by decide) dX13_semicolon_1 (kP ?_)
  refine x_if_ne C 8 (zI_bo (bo_X13_fine _)) dX13_semicolon_4 rfl (fun c1 => x_on c1 ?_) (fun c1 => x_op c1 ?_)
  · refine x_aload_n C 0 dX13_semicolon_8 rfl rfl ?_
    refine x_callV C (ct_X13_here _ _ σ) mt_X13_here vr_X13_here wd1692 cls_X13 at_X13 rfl ⟨rfl, rfl, Nat.le_of_ble_eq_true rfl, Nat.le_of_ble_eq_true rfl⟩ rfl (by decide) dX13_semicolon_9 (kI (fun v2 => ?_))
    refine x_bipush C (59) dX13_semicolon_12 rfl ?_
    refine x_icmp_eq C 27 rfl (zIl _ rfl) dX13_semicolon_14 rfl (fun c3 => x_op c3 ?_) (fun c3 => x_on c3 ?_)
    · refine x_aload_n C 0 dX13_semicolon_27 rfl rfl ?_
      refine x_aload_n C 0 dX13_semicolon_28 rfl rfl ?_
      refine x_get (v := iV (σ 184 11)) C 11 cls_X13 at_X13 (by decide) wd1513 rfl rfl dX13_semicolon_29 ?_
      refine x_iconst C (1) dX13_semicolon_32 rfl ?_
      refine x_iadd C dX13_semicolon_33 ?_
      refine x_put C 11 ((σ 184 11) + 1) cls_X13 at_X13 (by decide) wd1513 rfl rfl rfl rfl (xV_pI rfl) dX13_semicolon_34 ?_
      refine x_letS (fun s4 => ?_)
      refine x_aload_n C 0 dX13_semicolon_37 rfl rfl ?_
      refine x_callV C (ct_X13_skips _ _ n s4) mt_X13_skips vr_X13_skips wd1688 cls_X13 at_X13 rfl ⟨rfl, rfl, Nat.le_of_ble_eq_true rfl, Nat.le_of_ble_eq_true rfl⟩ rfl (by decide) dX13_semicolon_38 (kV (fun s5 => ?_))
      exact x_vretQ C (hQ _) rfl dX13_semicolon_41
    · refine x_aload_n C 0 dX13_semicolon_17 rfl rfl ?_
      refine x_iconst C (1) dX13_semicolon_18 rfl ?_
      refine x_aload_n C 0 dX13_semicolon_19 rfl rfl ?_
      refine x_get (v := iV (σ 184 11)) C 11 cls_X13 at_X13 (by decide) wd1513 rfl rfl dX13_semicolon_20 ?_
      refine x_callV C (ct_X13_faulty _ _ 1 (σ 184 11) σ) mt_X13_faulty vr_X13_faulty wd1750 cls_X13 at_X13 rfl ⟨rfl, rfl, Nat.le_of_ble_eq_true rfl, Nat.le_of_ble_eq_true rfl⟩ rfl (by decide) dX13_semicolon_23 (kV (fun s6 => ?_))
      exact x_vretQ C (hQ _) rfl dX13_semicolon_26
  · exact x_vretQ C (hQ _) rfl dX13_semicolon_7
theorem ct_X13_semicolon (l : Launch) (E : xE) (n : Nat) (σ : xS)   : xMet l E yX13_semicolon cX13_semicolon 1 none { frames := 3, cells := 0, slots := 0, locals := 61 } [.ref (xqa E.2.2 184)] WW WW σ (xrV (m_X13_semicolon n σ)) := by
  refine xMet.of0 (by decide) (Nat.le_of_ble_eq_true rfl) rfl rfl (fun X hE C => ?_)
  subst hE
  exact xMap (fun q => (none, q)) (wk_X13_semicolon C (fun _ => rfl) )
theorem mt_X13_semicolon : xMth yX13_semicolon cX13_semicolon 1 none 0 := ⟨wd1846, wd164, ⟨by decide, by decide, rfl⟩⟩
theorem vr_X13_semicolon : xVir yX13_semicolon := ⟨wd1845, wd82⟩
def m_X13_mostOf (p1 : Int) : Int := if (zI p1) = 4 then 6 else if (zI p1) = 5 then 4 else if (zI p1) = 6 then 7 else if (zI p1) = 7 then 20 else if (zI p1) = 8 then 3 else 24
set_option maxHeartbeats 4000000 in
set_option maxRecDepth 100000 in
theorem wk_X13_mostOf {X : xX} {Qf : Int → State → Prop} {p1 : Int} {σ : xS} (C : xCx X cX13_mostOf "BakeryNightModel" (some .int) { frames := 0, cells := 0, slots := 0, locals := 0 } 2) (hQ : ∀ v, Qf v = xQf X WW (some (iV v), σ))  : WO X Qf WW σ 0 [(0, .ref (xqa (xXE X).2.2 184)), (1, iV p1)] [] (some (m_X13_mostOf p1)) := by
  refine x_iload_n C 1 dX13_mostOf_0 rfl rfl ?_
  refine x_iconst C (4) dX13_mostOf_1 rfl ?_
  refine x_icmp_ne C 10 rfl (zIl _ rfl) dX13_mostOf_2 rfl (fun c1 => ?_) (fun c1 => ?_)
  · refine x_iload_n C 1 dX13_mostOf_10 rfl rfl ?_
    refine x_iconst C (5) dX13_mostOf_11 rfl ?_
    refine x_icmp_ne C 19 rfl (zIl _ rfl) dX13_mostOf_12 rfl (fun c2 => ?_) (fun c2 => ?_)
    · refine x_iload_n C 1 dX13_mostOf_19 rfl rfl ?_
      refine x_bipush C (6) dX13_mostOf_20 rfl ?_
      refine x_icmp_ne C 30 rfl (zIl _ rfl) dX13_mostOf_22 rfl (fun c3 => ?_) (fun c3 => ?_)
      · refine x_iload_n C 1 dX13_mostOf_30 rfl rfl ?_
        refine x_bipush C (7) dX13_mostOf_31 rfl ?_
        refine x_icmp_ne C 41 rfl (zIl _ rfl) dX13_mostOf_33 rfl (fun c4 => ?_) (fun c4 => ?_)
        · refine x_iload_n C 1 dX13_mostOf_41 rfl rfl ?_
          refine x_bipush C (8) dX13_mostOf_42 rfl ?_
          refine x_icmp_ne C 51 rfl (zIl _ rfl) dX13_mostOf_44 rfl (fun c5 => ?_) (fun c5 => ?_)
          · refine x_bipush C (24) dX13_mostOf_51 rfl ?_
            exact x_leafR (by unfold m_X13_mostOf; rw [if_neg c1, if_neg c2, if_neg c3, if_neg c4, if_neg c5]) (x_iretQ C (hQ _) rfl dX13_mostOf_53)
          · refine x_iconst C (3) dX13_mostOf_47 rfl ?_
            refine x_goto C 53 dX13_mostOf_48 rfl ?_
            exact x_leafR (by unfold m_X13_mostOf; rw [if_neg c1, if_neg c2, if_neg c3, if_neg c4, if_pos c5]) (x_iretQ C (hQ _) rfl dX13_mostOf_53)
        · refine x_bipush C (20) dX13_mostOf_36 rfl ?_
          refine x_goto C 53 dX13_mostOf_38 rfl ?_
          exact x_leafR (by unfold m_X13_mostOf; rw [if_neg c1, if_neg c2, if_neg c3, if_pos c4]) (x_iretQ C (hQ _) rfl dX13_mostOf_53)
      · refine x_bipush C (7) dX13_mostOf_25 rfl ?_
        refine x_goto C 53 dX13_mostOf_27 rfl ?_
        exact x_leafR (by unfold m_X13_mostOf; rw [if_neg c1, if_neg c2, if_pos c3]) (x_iretQ C (hQ _) rfl dX13_mostOf_53)
    · refine x_iconst C (4) dX13_mostOf_15 rfl ?_
      refine x_goto C 53 dX13_mostOf_16 rfl ?_
      exact x_leafR (by unfold m_X13_mostOf; rw [if_neg c1, if_pos c2]) (x_iretQ C (hQ _) rfl dX13_mostOf_53)
  · refine x_bipush C (6) dX13_mostOf_5 rfl ?_
    refine x_goto C 53 dX13_mostOf_7 rfl ?_
    exact x_leafR (by unfold m_X13_mostOf; rw [if_pos c1]) (x_iretQ C (hQ _) rfl dX13_mostOf_53)
theorem ct_X13_mostOf (l : Launch) (E : xE) (p1 : Int)  (σ : xS) : xMet l E yX13_mostOf cX13_mostOf 2 (some .int) { frames := 0, cells := 0, slots := 0, locals := 0 } [.ref (xqa E.2.2 184), iV p1] WW WW σ (some (some (iV (m_X13_mostOf p1)), σ)) := by
  refine xMet.of0 (by decide) (Nat.le_of_ble_eq_true rfl) rfl rfl (fun X hE C => ?_)
  subst hE
  exact xMap (fun v => (some (iV v), σ)) (wk_X13_mostOf C (fun _ => rfl) )
theorem mt_X13_mostOf : xMth yX13_mostOf cX13_mostOf 2 (some .int) 1 := ⟨wd1771, wd164, ⟨by decide, by decide, rfl⟩⟩
theorem vr_X13_mostOf : xVir yX13_mostOf := ⟨wd1770, wd67⟩
def m_X13_skipsWord (n : Nat) (σ : xS) : Option xS :=
  (m_X13_wordLength n σ).bind fun v1 => xlet (xput σ 184 11 ((σ 184 11) + v1)) fun s2 => (m_X13_skips n s2).bind fun s3 => some s3
set_option maxHeartbeats 4000000 in
set_option maxRecDepth 100000 in
theorem wk_X13_skipsWord {X : xX} {Qf : xS → State → Prop} {n : Nat} {σ : xS} (C : xCx X cX13_skipsWord "BakeryNightModel" none { frames := 3, cells := 0, slots := 0, locals := 68 } 1) (hQ : ∀ τ, Qf τ = xQf X WW (none, τ))  : WO X Qf WW σ 0 [(0, .ref (xqa (xXE X).2.2 184))] [] (m_X13_skipsWord n σ) := by
  unfold m_X13_skipsWord
  refine x_aload_n C 0 dX13_skipsWord_0 rfl rfl ?_
  refine x_aload_n C 0 dX13_skipsWord_1 rfl rfl ?_
  refine x_get (v := iV (σ 184 11)) C 11 cls_X13 at_X13 (by decide) wd1513 rfl rfl dX13_skipsWord_2 ?_
  refine x_aload_n C 0 dX13_skipsWord_5 rfl rfl ?_
  refine x_callV C (ct_X13_wordLength _ _ n σ) mt_X13_wordLength vr_X13_wordLength wd1717 cls_X13 at_X13 rfl ⟨rfl, rfl, Nat.le_of_ble_eq_true rfl, Nat.le_of_ble_eq_true rfl⟩ rfl (Nat.le_of_ble_eq_true rfl) dX13_skipsWord_6 (kI (fun v1 => ?_))
  refine x_iadd C dX13_skipsWord_9 ?_
  refine x_put C 11 ((σ 184 11) + v1) cls_X13 at_X13 (by decide) wd1513 rfl rfl rfl rfl (xV_pI rfl) dX13_skipsWord_10 ?_
  refine x_letS (fun s2 => ?_)
  refine x_aload_n C 0 dX13_skipsWord_13 rfl rfl ?_
  refine x_callV C (ct_X13_skips _ _ n s2) mt_X13_skips vr_X13_skips wd1688 cls_X13 at_X13 rfl ⟨rfl, rfl, Nat.le_of_ble_eq_true rfl, Nat.le_of_ble_eq_true rfl⟩ rfl (by decide) dX13_skipsWord_14 (kV (fun s3 => ?_))
  exact x_vretQ C (hQ _) rfl dX13_skipsWord_17
theorem ct_X13_skipsWord (l : Launch) (E : xE) (n : Nat) (σ : xS)   : xMet l E yX13_skipsWord cX13_skipsWord 1 none { frames := 3, cells := 0, slots := 0, locals := 68 } [.ref (xqa E.2.2 184)] WW WW σ (xrV (m_X13_skipsWord n σ)) := by
  refine xMet.of0 (by decide) (Nat.le_of_ble_eq_true rfl) rfl rfl (fun X hE C => ?_)
  subst hE
  exact xMap (fun q => (none, q)) (wk_X13_skipsWord C (fun _ => rfl) )
theorem mt_X13_skipsWord : xMth yX13_skipsWord cX13_skipsWord 1 none 0 := ⟨wd1757, wd164, ⟨by decide, by decide, rfl⟩⟩
theorem vr_X13_skipsWord : xVir yX13_skipsWord := ⟨wd1756, wd64⟩
def m_X13_single (n : Nat) (p1 : Int) (σ : xS) : Option xS :=
  xj (fun (q4 : xS) => if (m_X13_fine q4) = 0 then some q4 else xlet (xput q4 184 17 (zor (q4 184 17) (zshl 1 p1))) fun s6 => (m_X13_skipsWord n s6).bind fun s7 => xj (fun (q12 : xS × Int) => xck (zI p1) 289 <| xlet (xput q12.1 186 (zI p1).toNat q12.2) fun s13 => some s13) fun J10 => if (zI p1) = 0 then xbS (m_X13_number n 10 40 s7) fun v21 s20 => J10 (s20, v21) else if (zI p1) = 1 then xbS (m_X13_number n 0 120 s7) fun v19 s18 => J10 (s18, v19) else xbS (m_X13_number n 1 4 s7) fun v17 s16 => J10 (s16, v17)) fun J2 => if (m_X13_has (σ 184 17) p1) = 0 then J2 σ else (m_X13_faulty 3 (σ 184 11) σ).bind fun s23 => J2 s23
set_option maxHeartbeats 4000000 in
set_option maxRecDepth 100000 in
theorem wk_X13_single {X : xX} {Qf : xS → State → Prop} {n : Nat} {p1 : Int} {σ : xS} (C : xCx X cX13_single "BakeryNightModel" none { frames := 4, cells := 0, slots := 0, locals := 88 } 2) (hQ : ∀ τ, Qf τ = xQf X WW (none, τ))  : WO X Qf WW σ 0 [(0, .ref (xqa (xXE X).2.2 184)), (1, iV p1)] [] (m_X13_single n p1 σ) := by
  unfold m_X13_single
  refine x_aload_n C 0 dX13_single_0 rfl rfl ?_
  refine x_aload_n C 0 dX13_single_1 rfl rfl ?_
  refine x_get (v := iV (σ 184 17)) C 17 cls_X13 at_X13 (by decide) wd1519 rfl rfl dX13_single_2 ?_
  refine x_iload_n C 1 dX13_single_5 rfl rfl ?_
  refine x_callV C (ct_X13_has _ _ (σ 184 17) p1 σ) mt_X13_has vr_X13_has wd1746 cls_X13 at_X13 rfl ⟨rfl, rfl, Nat.le_of_ble_eq_true rfl, Nat.le_of_ble_eq_true rfl⟩ rfl (by decide) dX13_single_6 (kP ?_)
  refine x_join (fun J => ∀ q4 : xS, WO X Qf WW q4 21 [(0, .ref (xqa (xXE X).2.2 184)), (1, iV p1)] [] (J q4)) ?_ ?_
  · intro q4
    refine x_aload_n C 0 dX13_single_21 rfl rfl ?_
    refine x_callV C (ct_X13_fine _ _ q4) mt_X13_fine vr_X13_fine wd1700 cls_X13 at_X13 rfl ⟨rfl, rfl, Nat.le_of_ble_eq_true rfl, Nat.le_of_ble_eq_true rfl⟩ rfl (by decide) dX13_single_22 (kP ?_)
    refine x_if_ne C 29 (zI_bo (bo_X13_fine _)) dX13_single_25 rfl (fun c5 => x_on c5 ?_) (fun c5 => x_op c5 ?_)
    · refine x_aload_n C 0 dX13_single_29 rfl rfl ?_
      refine x_dup C dX13_single_30 rfl ?_
      refine x_get (v := iV (q4 184 17)) C 17 cls_X13 at_X13 (by decide) wd1519 rfl rfl dX13_single_31 ?_
      refine x_iconst C (1) dX13_single_34 rfl ?_
      refine x_iload_n C 1 dX13_single_35 rfl rfl ?_
      refine x_ishl C dX13_single_36 ?_
      refine x_ior C dX13_single_37 ?_
      refine x_put C 17 (zor (q4 184 17) (zshl 1 p1)) cls_X13 at_X13 (by decide) wd1519 rfl rfl rfl rfl (xV_pI rfl) dX13_single_38 ?_
      refine x_letS (fun s6 => ?_)
      refine x_aload_n C 0 dX13_single_41 rfl rfl ?_
      refine x_callV C (ct_X13_skipsWord _ _ n s6) mt_X13_skipsWord vr_X13_skipsWord wd1754 cls_X13 at_X13 rfl ⟨rfl, rfl, Nat.le_of_ble_eq_true rfl, Nat.le_of_ble_eq_true rfl⟩ rfl (by decide) dX13_single_42 (kV (fun s7 => ?_))
      refine x_aload_n C 0 dX13_single_45 rfl rfl ?_
      refine x_get (v := .ref (xqa (xXE X).2.2 186)) C 1 cls_X13 at_X13 (by decide) wd1503 rfl (xV_r (rt_X13_draft  _) rfl) dX13_single_46 ?_
      refine x_iload_n C 1 dX13_single_49 rfl rfl ?_
      refine x_iload_n C 1 dX13_single_50 rfl rfl ?_
      refine x_join (fun J => ∀ q12 : xS × Int, WO X Qf WW q12.1 86 [] [iV q12.2, iV p1, .ref (xqa (xXE X).2.2 186)] (J q12)) ?_ ?_
      · intro q12
        refine x_iast C at_X13_draft rfl dX13_single_86 (fun _ => ?_)
        refine x_letS (fun s13 => ?_)
        exact x_vretQ C (hQ _) rfl dX13_single_87
      · intro J10 hJ11
        refine x_if_ne C 65 rfl dX13_single_51 rfl (fun c14 => x_on c14 ?_) (fun c14 => x_op c14 ?_)
        · refine x_iload_n C 1 dX13_single_65 rfl rfl ?_
          refine x_iconst C (1) dX13_single_66 rfl ?_
          refine x_icmp_ne C 80 rfl (zIl _ rfl) dX13_single_67 rfl (fun c15 => x_on c15 ?_) (fun c15 => x_op c15 ?_)
          · refine x_aload_n C 0 dX13_single_80 rfl rfl ?_
            refine x_iconst C (1) dX13_single_81 rfl ?_
            refine x_iconst C (4) dX13_single_82 rfl ?_
            refine x_callV C (ct_X13_number _ _ n 1 4 s7) mt_X13_number vr_X13_number wd1758 cls_X13 at_X13 rfl ⟨rfl, rfl, Nat.le_of_ble_eq_true rfl, Nat.le_of_ble_eq_true rfl⟩ rfl (Nat.le_of_ble_eq_true rfl) dX13_single_83 (kS (fun v17 s16 => ?_))
            refine x_pick [] rfl ?_
            exact hJ11 (s16, v17)
          · refine x_aload_n C 0 dX13_single_70 rfl rfl ?_
            refine x_iconst C (0) dX13_single_71 rfl ?_
            refine x_bipush C (120) dX13_single_72 rfl ?_
            refine x_callV C (ct_X13_number _ _ n 0 120 s7) mt_X13_number vr_X13_number wd1758 cls_X13 at_X13 rfl ⟨rfl, rfl, Nat.le_of_ble_eq_true rfl, Nat.le_of_ble_eq_true rfl⟩ rfl (Nat.le_of_ble_eq_true rfl) dX13_single_74 (kS (fun v19 s18 => ?_))
            refine x_goto C 86 dX13_single_77 rfl ?_
            refine x_pick [] rfl ?_
            exact hJ11 (s18, v19)
        · refine x_aload_n C 0 dX13_single_54 rfl rfl ?_
          refine x_bipush C (10) dX13_single_55 rfl ?_
          refine x_bipush C (40) dX13_single_57 rfl ?_
          refine x_callV C (ct_X13_number _ _ n 10 40 s7) mt_X13_number vr_X13_number wd1758 cls_X13 at_X13 rfl ⟨rfl, rfl, Nat.le_of_ble_eq_true rfl, Nat.le_of_ble_eq_true rfl⟩ rfl (Nat.le_of_ble_eq_true rfl) dX13_single_59 (kS (fun v21 s20 => ?_))
          refine x_goto C 86 dX13_single_62 rfl ?_
          refine x_pick [] rfl ?_
          exact hJ11 (s20, v21)
    · exact x_vretQ C (hQ _) rfl dX13_single_28
  · intro J2 hJ3
    refine x_if_eq C 21 (zI_bo (bo_X13_has _ _)) dX13_single_9 rfl (fun c22 => x_op c22 ?_) (fun c22 => x_on c22 ?_)
    · refine x_pick [0, 1] rfl ?_
      exact hJ3 σ
    · refine x_aload_n C 0 dX13_single_12 rfl rfl ?_
      refine x_iconst C (3) dX13_single_13 rfl ?_
      refine x_aload_n C 0 dX13_single_14 rfl rfl ?_
      refine x_get (v := iV (σ 184 11)) C 11 cls_X13 at_X13 (by decide) wd1513 rfl rfl dX13_single_15 ?_
      refine x_callV C (ct_X13_faulty _ _ 3 (σ 184 11) σ) mt_X13_faulty vr_X13_faulty wd1750 cls_X13 at_X13 rfl ⟨rfl, rfl, Nat.le_of_ble_eq_true rfl, Nat.le_of_ble_eq_true rfl⟩ rfl (by decide) dX13_single_18 (kV (fun s23 => ?_))
      refine x_pick [0, 1] rfl ?_
      exact hJ3 s23
theorem ct_X13_single (l : Launch) (E : xE) (n : Nat) (p1 : Int) (σ : xS)   : xMet l E yX13_single cX13_single 2 none { frames := 4, cells := 0, slots := 0, locals := 88 } [.ref (xqa E.2.2 184), iV p1] WW WW σ (xrV (m_X13_single n p1 σ)) := by
  refine xMet.of0 (by decide) (Nat.le_of_ble_eq_true rfl) rfl rfl (fun X hE C => ?_)
  subst hE
  exact xMap (fun q => (none, q)) (wk_X13_single C (fun _ => rfl) )
theorem mt_X13_single : xMth yX13_single cX13_single 2 none 1 := ⟨wd1745, wd164, ⟨by decide, by decide, rfl⟩⟩
theorem vr_X13_single : xVir yX13_single := ⟨wd1744, wd61⟩
def m_X13_errorCode (σ : xS) : Option (Int × xS) :=
  xlet (xput σ 184 7 0) fun s1 => some (s1 184 12, s1)
set_option maxHeartbeats 4000000 in
set_option maxRecDepth 100000 in
theorem wk_X13_errorCode {X : xX} {Qf : (Int × xS) → State → Prop} {σ : xS} (C : xCx X cX13_errorCode "BakeryNightModel" (some .int) { frames := 0, cells := 0, slots := 0, locals := 0 } 1) (hQ : ∀ v τ, Qf (v, τ) = xQf X WW (some (iV v), τ))  : WO X Qf WW σ 0 [(0, .ref (xqa (xXE X).2.2 184))] [] (m_X13_errorCode σ) := by
  unfold m_X13_errorCode
  refine x_aload_n C 0 dX13_errorCode_0 rfl rfl ?_
  refine x_iconst C (0) dX13_errorCode_1 rfl ?_
  refine x_put C 7 0 cls_X13 at_X13 (by decide) wd1509 rfl rfl rfl rfl (xV_pI rfl) dX13_errorCode_2 ?_
  refine x_letS (fun s1 => ?_)
  refine x_aload_n C 0 dX13_errorCode_5 rfl rfl ?_
  refine x_get (v := iV (s1 184 12)) C 12 cls_X13 at_X13 (by decide) wd1514 rfl rfl dX13_errorCode_6 ?_
  exact x_iretQ C (hQ _ _) rfl dX13_errorCode_9
theorem ct_X13_errorCode (l : Launch) (E : xE) (σ : xS)   : xMet l E yX13_errorCode cX13_errorCode 1 (some .int) { frames := 0, cells := 0, slots := 0, locals := 0 } [.ref (xqa E.2.2 184)] WW WW σ (xrS (m_X13_errorCode σ)) := by
  refine xMet.of0 (by decide) (Nat.le_of_ble_eq_true rfl) rfl rfl (fun X hE C => ?_)
  subst hE
  exact xMap (fun q => (some (iV q.1), q.2)) (wk_X13_errorCode C (fun _ _ => rfl) )
theorem mt_X13_errorCode : xMth yX13_errorCode cX13_errorCode 1 (some .int) 0 := ⟨wd1854, wd164, ⟨by decide, by decide, rfl⟩⟩
theorem vr_X13_errorCode : xVir yX13_errorCode := ⟨wd1852, wd1853⟩
def m_X13_errorOffset (σ : xS) : Option (Int × xS) :=
  xlet (xput σ 184 7 0) fun s1 => some (s1 184 13, s1)
set_option maxHeartbeats 4000000 in
set_option maxRecDepth 100000 in
theorem wk_X13_errorOffset {X : xX} {Qf : (Int × xS) → State → Prop} {σ : xS} (C : xCx X cX13_errorOffset "BakeryNightModel" (some .int) { frames := 0, cells := 0, slots := 0, locals := 0 } 1) (hQ : ∀ v τ, Qf (v, τ) = xQf X WW (some (iV v), τ))  : WO X Qf WW σ 0 [(0, .ref (xqa (xXE X).2.2 184))] [] (m_X13_errorOffset σ) := by
  unfold m_X13_errorOffset
  refine x_aload_n C 0 dX13_errorOffset_0 rfl rfl ?_
  refine x_iconst C (0) dX13_errorOffset_1 rfl ?_
  refine x_put C 7 0 cls_X13 at_X13 (by decide) wd1509 rfl rfl rfl rfl (xV_pI rfl) dX13_errorOffset_2 ?_
  refine x_letS (fun s1 => ?_)
  refine x_aload_n C 0 dX13_errorOffset_5 rfl rfl ?_
  refine x_get (v := iV (s1 184 13)) C 13 cls_X13 at_X13 (by decide) wd1515 rfl rfl dX13_errorOffset_6 ?_
  exact x_iretQ C (hQ _ _) rfl dX13_errorOffset_9
theorem ct_X13_errorOffset (l : Launch) (E : xE) (σ : xS)   : xMet l E yX13_errorOffset cX13_errorOffset 1 (some .int) { frames := 0, cells := 0, slots := 0, locals := 0 } [.ref (xqa E.2.2 184)] WW WW σ (xrS (m_X13_errorOffset σ)) := by
  refine xMet.of0 (by decide) (Nat.le_of_ble_eq_true rfl) rfl rfl (fun X hE C => ?_)
  subst hE
  exact xMap (fun q => (some (iV q.1), q.2)) (wk_X13_errorOffset C (fun _ _ => rfl) )
theorem mt_X13_errorOffset : xMth yX13_errorOffset cX13_errorOffset 1 (some .int) 0 := ⟨wd1858, wd164, ⟨by decide, by decide, rfl⟩⟩
theorem vr_X13_errorOffset : xVir yX13_errorOffset := ⟨wd1856, wd1857⟩
def m_X13_loavesOf (n : Nat) (k1 : Nat) (p2 : Int) (σ : xS) : Option Int :=
  loopF (fun rec2 (t1 : Int × Int) => xck 9 289 <| if (zI (σ k1 (9 : Int).toNat)) ≤ (zI t1.2) then some t1.1 else (m_X13_isMeant k1 t1.2 σ).bind fun v5 => xj (fun (q10 : Int) => xlet (t1.1 + q10) fun v11 => xlet (t1.2 + 1) fun v12 => rec2 (v11, v12)) fun J8 => xj (fun (q15 : Unit) => J8 0) fun J13 => if (zI v5) = 0 then J13 () else (m_X13_order k1 t1.2 1 σ).bind fun v17 => if (zI v17) = (zI p2) then (m_X13_order k1 t1.2 2 σ).bind fun v19 => J8 v19 else J13 ()) n (0, 0)
set_option maxHeartbeats 4000000 in
set_option maxRecDepth 100000 in
theorem wk_X13_loavesOf {X : xX} {Qf : Int → State → Prop} {n : Nat} {k1 : Nat} {p2 : Int} {σ : xS} (C : xCx X cX13_loavesOf "BakeryNightModel" (some .int) { frames := 2, cells := 0, slots := 0, locals := 45 } 5) (hQ : ∀ v, Qf v = xQf X WW (some (iV v), σ)) (hk1 : xAt WW k1 0 289) : WO X Qf WW σ 0 [(0, .ref (xqa (xXE X).2.2 184)), (1, .ref (xqa (xXE X).2.2 k1)), (2, iV p2)] [] (m_X13_loavesOf n k1 p2 σ) := by
  unfold m_X13_loavesOf
  refine x_iconst C (0) dX13_loavesOf_0 rfl ?_
  refine x_istore_n (L' := [(3, _), (0, _), (1, _), (2, _)]) C dX13_loavesOf_1 rfl (by decide) rfl ?_
  refine x_iconst C (0) dX13_loavesOf_2 rfl ?_
  refine x_istore (L' := [(4, _), (3, _), (0, _), (1, _), (2, _)]) C dX13_loavesOf_3 (by decide) rfl ?_
  refine x_pick [2, 3, 4, 1, 0] rfl ?_
  refine x_loop (fun t1 : Int × Int => σ) (fun t1 : Int × Int => [(0, .ref (xqa (xXE X).2.2 184)), (1, .ref (xqa (xXE X).2.2 k1)), (2, iV p2), (3, iV t1.1), (4, iV t1.2)]) (fun rec2 hr3 t1 => ?_) n (0, 0)
  refine x_iload C 4 dX13_loavesOf_5 rfl ?_
  refine x_aload_n C 1 dX13_loavesOf_7 rfl rfl ?_
  refine x_bipush C (9) dX13_loavesOf_8 rfl ?_
  refine x_iald C hk1 (zIl _ rfl) dX13_loavesOf_10 (fun _ => ?_)
  refine x_icmp_ge C 57 rfl rfl dX13_loavesOf_11 rfl (fun c4 => x_op c4 ?_) (fun c4 => x_on c4 ?_)
  · refine x_iload_n C 3 dX13_loavesOf_57 rfl rfl ?_
    exact x_iretQ C (hQ _) rfl dX13_loavesOf_58
  · refine x_iload_n C 3 dX13_loavesOf_14 rfl rfl ?_
    refine x_aload_n C 0 dX13_loavesOf_15 rfl rfl ?_
    refine x_aload_n C 1 dX13_loavesOf_16 rfl rfl ?_
    refine x_iload C 4 dX13_loavesOf_17 rfl ?_
    refine x_callV C (ct_X13_isMeant _ _ k1 t1.2 σ hk1) mt_X13_isMeant vr_X13_isMeant wd1875 cls_X13 at_X13 rfl ⟨rfl, rfl, Nat.le_of_ble_eq_true rfl, Nat.le_of_ble_eq_true rfl⟩ rfl (Nat.le_of_ble_eq_true rfl) dX13_loavesOf_19 (kI (fun v5 => ?_))
    refine x_join (fun J => ∀ q10 : Int, WO X Qf WW σ 49 [(0, .ref (xqa (xXE X).2.2 184)), (1, .ref (xqa (xXE X).2.2 k1)), (2, iV p2), (4, iV t1.2)] [iV q10, iV t1.1] (J q10)) ?_ ?_
    · intro q10
      refine x_iadd C dX13_loavesOf_49 ?_
      refine x_letI (fun v11 => ?_)
      refine x_istore_n (L' := [(3, _), (0, _), (1, _), (2, _), (4, _)]) C dX13_loavesOf_50 rfl (by decide) rfl ?_
      refine x_inc C 4 (f := _) dX13_loavesOf_51 rfl (by decide) (1) rfl (fun v12 => ?_)
      refine x_reL (L' := [(4, _), (3, _), (0, _), (1, _), (2, _)]) rfl ?_
      refine x_goto C 5 dX13_loavesOf_54 rfl ?_
      refine x_pick [2, 3, 4, 1, 0] rfl ?_
      exact hr3 (v11, v12)
    · intro J8 hJ9
      refine x_join (fun J => ∀ q15 : Unit, WO X Qf WW σ 48 [(0, .ref (xqa (xXE X).2.2 184)), (1, .ref (xqa (xXE X).2.2 k1)), (2, iV p2), (4, iV t1.2)] [iV t1.1] (J q15)) ?_ ?_
      · intro q15
        refine x_iconst C (0) dX13_loavesOf_48 rfl ?_
        refine x_pick [0, 1, 2, 3] rfl ?_
        exact hJ9 0
      · intro J13 hJ14
        refine x_if_eq C 48 rfl dX13_loavesOf_22 rfl (fun c16 => x_op c16 ?_) (fun c16 => x_on c16 ?_)
        · refine x_pick [0, 1, 2, 4] rfl ?_
          exact hJ14 ()
        · refine x_aload_n C 0 dX13_loavesOf_25 rfl rfl ?_
          refine x_aload_n C 1 dX13_loavesOf_26 rfl rfl ?_
          refine x_iload C 4 dX13_loavesOf_27 rfl ?_
          refine x_iconst C (1) dX13_loavesOf_29 rfl ?_
          refine x_callV C (ct_X13_order _ _ k1 t1.2 1 σ hk1) mt_X13_order vr_X13_order wd1879 cls_X13 at_X13 rfl ⟨rfl, rfl, Nat.le_of_ble_eq_true rfl, Nat.le_of_ble_eq_true rfl⟩ rfl (Nat.le_of_ble_eq_true rfl) dX13_loavesOf_30 (kI (fun v17 => ?_))
          refine x_iload_n C 2 dX13_loavesOf_33 rfl rfl ?_
          refine x_icmp_ne C 48 rfl rfl dX13_loavesOf_34 rfl (fun c18 => x_on c18 ?_) (fun c18 => x_op c18 ?_)
          · refine x_pick [0, 1, 2, 4] rfl ?_
            exact hJ14 ()
          · refine x_aload_n C 0 dX13_loavesOf_37 rfl rfl ?_
            refine x_aload_n C 1 dX13_loavesOf_38 rfl rfl ?_
            refine x_iload C 4 dX13_loavesOf_39 rfl ?_
            refine x_iconst C (2) dX13_loavesOf_41 rfl ?_
            refine x_callV C (ct_X13_order _ _ k1 t1.2 2 σ hk1) mt_X13_order vr_X13_order wd1879 cls_X13 at_X13 rfl ⟨rfl, rfl, Nat.le_of_ble_eq_true rfl, Nat.le_of_ble_eq_true rfl⟩ rfl (Nat.le_of_ble_eq_true rfl) dX13_loavesOf_42 (kI (fun v19 => ?_))
            refine x_goto C 49 dX13_loavesOf_45 rfl ?_
            refine x_pick [0, 1, 2, 4] rfl ?_
            exact hJ9 v19
theorem ct_X13_loavesOf (l : Launch) (E : xE) (n : Nat) (k1 : Nat) (p2 : Int) (σ : xS) (hk1 : xAt WW k1 0 289)  : xMet l E yX13_loavesOf cX13_loavesOf 5 (some .int) { frames := 2, cells := 0, slots := 0, locals := 45 } [.ref (xqa E.2.2 184), .ref (xqa E.2.2 k1), iV p2] WW WW σ (xrI (m_X13_loavesOf n k1 p2 σ) σ) := by
  refine xMet.of0 (by decide) (Nat.le_of_ble_eq_true rfl) rfl rfl (fun X hE C => ?_)
  subst hE
  exact xMap (fun v => (some (iV v), σ)) (wk_X13_loavesOf C (fun _ => rfl) hk1)
theorem mt_X13_loavesOf : xMth yX13_loavesOf cX13_loavesOf 5 (some .int) 2 := ⟨wd1874, wd164, ⟨by decide, by decide, rfl⟩⟩
theorem vr_X13_loavesOf : xVir yX13_loavesOf := ⟨wd1873, wd85⟩
def m_X13_batchesOf (n : Nat) (k1 : Nat) (p2 : Int) (σ : xS) : Option Int :=
  (m_X13_loavesOf n k1 p2 σ).bind fun v1 => (m_X13_dough k1 p2 7 σ).bind fun v2 => (m_X13_up v1 v2 σ).bind fun v3 => some v3
set_option maxHeartbeats 4000000 in
set_option maxRecDepth 100000 in
theorem wk_X13_batchesOf {X : xX} {Qf : Int → State → Prop} {n : Nat} {k1 : Nat} {p2 : Int} {σ : xS} (C : xCx X cX13_batchesOf "BakeryNightModel" (some .int) { frames := 3, cells := 0, slots := 0, locals := 69 } 3) (hQ : ∀ v, Qf v = xQf X WW (some (iV v), σ)) (hk1 : xAt WW k1 0 289) : WO X Qf WW σ 0 [(0, .ref (xqa (xXE X).2.2 184)), (1, .ref (xqa (xXE X).2.2 k1)), (2, iV p2)] [] (m_X13_batchesOf n k1 p2 σ) := by
  unfold m_X13_batchesOf
  refine x_aload_n C 0 dX13_batchesOf_0 rfl rfl ?_
  refine x_aload_n C 0 dX13_batchesOf_1 rfl rfl ?_
  refine x_aload_n C 1 dX13_batchesOf_2 rfl rfl ?_
  refine x_iload_n C 2 dX13_batchesOf_3 rfl rfl ?_
  refine x_callV C (ct_X13_loavesOf _ _ n k1 p2 σ hk1) mt_X13_loavesOf vr_X13_loavesOf wd1871 cls_X13 at_X13 rfl ⟨rfl, rfl, Nat.le_of_ble_eq_true rfl, Nat.le_of_ble_eq_true rfl⟩ rfl (Nat.le_of_ble_eq_true rfl) dX13_batchesOf_4 (kI (fun v1 => ?_))
  refine x_aload_n C 0 dX13_batchesOf_7 rfl rfl ?_
  refine x_aload_n C 1 dX13_batchesOf_8 rfl rfl ?_
  refine x_iload_n C 2 dX13_batchesOf_9 rfl rfl ?_
  refine x_bipush C (7) dX13_batchesOf_10 rfl ?_
  refine x_callV C (ct_X13_dough _ _ k1 p2 7 σ hk1) mt_X13_dough vr_X13_dough wd1895 cls_X13 at_X13 rfl ⟨rfl, rfl, Nat.le_of_ble_eq_true rfl, Nat.le_of_ble_eq_true rfl⟩ rfl (Nat.le_of_ble_eq_true rfl) dX13_batchesOf_12 (kI (fun v2 => ?_))
  refine x_callV C (ct_X13_up _ _ v1 v2 σ) mt_X13_up vr_X13_up wd1899 cls_X13 at_X13 rfl ⟨rfl, rfl, Nat.le_of_ble_eq_true rfl, Nat.le_of_ble_eq_true rfl⟩ rfl (by decide) dX13_batchesOf_15 (kI (fun v3 => ?_))
  exact x_iretQ C (hQ _) rfl dX13_batchesOf_18
theorem ct_X13_batchesOf (l : Launch) (E : xE) (n : Nat) (k1 : Nat) (p2 : Int) (σ : xS) (hk1 : xAt WW k1 0 289)  : xMet l E yX13_batchesOf cX13_batchesOf 3 (some .int) { frames := 3, cells := 0, slots := 0, locals := 69 } [.ref (xqa E.2.2 184), .ref (xqa E.2.2 k1), iV p2] WW WW σ (xrI (m_X13_batchesOf n k1 p2 σ) σ) := by
  refine xMet.of0 (by decide) (Nat.le_of_ble_eq_true rfl) rfl rfl (fun X hE C => ?_)
  subst hE
  exact xMap (fun v => (some (iV v), σ)) (wk_X13_batchesOf C (fun _ => rfl) hk1)
theorem mt_X13_batchesOf : xMth yX13_batchesOf cX13_batchesOf 3 (some .int) 2 := ⟨wd1894, wd164, ⟨by decide, by decide, rfl⟩⟩
theorem vr_X13_batchesOf : xVir yX13_batchesOf := ⟨wd1893, wd89⟩
def m_X13_allBatches (n : Nat) (k1 : Nat) (σ : xS) : Option Int :=
  loopF (fun rec2 (t1 : Int × Int) => xck 4 289 <| if (zI (σ k1 (4 : Int).toNat)) ≤ (zI t1.2) then some t1.1 else (m_X13_batchesOf n k1 t1.2 σ).bind fun v5 => xlet (t1.1 + v5) fun v6 => xlet (t1.2 + 1) fun v7 => rec2 (v6, v7)) n (0, 0)
set_option maxHeartbeats 4000000 in
set_option maxRecDepth 100000 in
theorem wk_X13_allBatches {X : xX} {Qf : Int → State → Prop} {n : Nat} {k1 : Nat} {σ : xS} (C : xCx X cX13_allBatches "BakeryNightModel" (some .int) { frames := 4, cells := 0, slots := 0, locals := 91 } 4) (hQ : ∀ v, Qf v = xQf X WW (some (iV v), σ)) (hk1 : xAt WW k1 0 289) : WO X Qf WW σ 0 [(0, .ref (xqa (xXE X).2.2 184)), (1, .ref (xqa (xXE X).2.2 k1))] [] (m_X13_allBatches n k1 σ) := by
  unfold m_X13_allBatches
  refine x_iconst C (0) dX13_allBatches_0 rfl ?_
  refine x_istore_n (L' := [(2, _), (0, _), (1, _)]) C dX13_allBatches_1 rfl (by decide) rfl ?_
  refine x_iconst C (0) dX13_allBatches_2 rfl ?_
  refine x_istore_n (L' := [(3, _), (2, _), (0, _), (1, _)]) C dX13_allBatches_3 rfl (by decide) rfl ?_
  refine x_pick [2, 3, 1, 0] rfl ?_
  refine x_loop (fun t1 : Int × Int => σ) (fun t1 : Int × Int => [(0, .ref (xqa (xXE X).2.2 184)), (1, .ref (xqa (xXE X).2.2 k1)), (2, iV t1.1), (3, iV t1.2)]) (fun rec2 hr3 t1 => ?_) n (0, 0)
  refine x_iload_n C 3 dX13_allBatches_4 rfl rfl ?_
  refine x_aload_n C 1 dX13_allBatches_5 rfl rfl ?_
  refine x_iconst C (4) dX13_allBatches_6 rfl ?_
  refine x_iald C hk1 (zIl _ rfl) dX13_allBatches_7 (fun _ => ?_)
  refine x_icmp_ge C 26 rfl rfl dX13_allBatches_8 rfl (fun c4 => x_op c4 ?_) (fun c4 => x_on c4 ?_)
  · refine x_iload_n C 2 dX13_allBatches_26 rfl rfl ?_
    exact x_iretQ C (hQ _) rfl dX13_allBatches_27
  · refine x_iload_n C 2 dX13_allBatches_11 rfl rfl ?_
    refine x_aload_n C 0 dX13_allBatches_12 rfl rfl ?_
    refine x_aload_n C 1 dX13_allBatches_13 rfl rfl ?_
    refine x_iload_n C 3 dX13_allBatches_14 rfl rfl ?_
    refine x_callV C (ct_X13_batchesOf _ _ n k1 t1.2 σ hk1) mt_X13_batchesOf vr_X13_batchesOf wd1891 cls_X13 at_X13 rfl ⟨rfl, rfl, Nat.le_of_ble_eq_true rfl, Nat.le_of_ble_eq_true rfl⟩ rfl (Nat.le_of_ble_eq_true rfl) dX13_allBatches_15 (kI (fun v5 => ?_))
    refine x_iadd C dX13_allBatches_18 ?_
    refine x_letI (fun v6 => ?_)
    refine x_istore_n (L' := [(2, _), (0, _), (1, _), (3, _)]) C dX13_allBatches_19 rfl (by decide) rfl ?_
    refine x_inc C 3 (f := _) dX13_allBatches_20 rfl (by decide) (1) rfl (fun v7 => ?_)
    refine x_reL (L' := [(3, _), (2, _), (0, _), (1, _)]) rfl ?_
    refine x_goto C 4 dX13_allBatches_23 rfl ?_
    refine x_pick [2, 3, 1, 0] rfl ?_
    exact hr3 (v6, v7)
theorem ct_X13_allBatches (l : Launch) (E : xE) (n : Nat) (k1 : Nat) (σ : xS) (hk1 : xAt WW k1 0 289)  : xMet l E yX13_allBatches cX13_allBatches 4 (some .int) { frames := 4, cells := 0, slots := 0, locals := 91 } [.ref (xqa E.2.2 184), .ref (xqa E.2.2 k1)] WW WW σ (xrI (m_X13_allBatches n k1 σ) σ) := by
  refine xMet.of0 (by decide) (Nat.le_of_ble_eq_true rfl) rfl rfl (fun X hE C => ?_)
  subst hE
  exact xMap (fun v => (some (iV v), σ)) (wk_X13_allBatches C (fun _ => rfl) hk1)
theorem mt_X13_allBatches : xMth yX13_allBatches cX13_allBatches 4 (some .int) 1 := ⟨wd1890, wd164, ⟨by decide, by decide, rfl⟩⟩
theorem vr_X13_allBatches : xVir yX13_allBatches := ⟨wd1889, wd88⟩
def m_X13_dueOf (n : Nat) (k1 : Nat) (p2 : Int) (σ : xS) : Option Int :=
  loopF (fun rec2 (t1 : Int × Int) => xck 9 289 <| if (zI (σ k1 (9 : Int).toNat)) ≤ (zI t1.2) then some t1.1 else (m_X13_isMeant k1 t1.2 σ).bind fun v5 => xj (fun (q9 : Int) => xlet (t1.2 + 1) fun v10 => rec2 (q9, v10)) fun J7 => if (zI v5) = 0 then J7 t1.1 else (m_X13_order k1 t1.2 1 σ).bind fun v12 => if (zI v12) = (zI p2) then (m_X13_order k1 t1.2 3 σ).bind fun v14 => xlet (m_X13_lesser t1.1 v14) fun v15 => J7 v15 else J7 t1.1) n (1000000, 0)
set_option maxHeartbeats 4000000 in
set_option maxRecDepth 100000 in
theorem wk_X13_dueOf {X : xX} {Qf : Int → State → Prop} {n : Nat} {k1 : Nat} {p2 : Int} {σ : xS} (C : xCx X cX13_dueOf "BakeryNightModel" (some .int) { frames := 2, cells := 0, slots := 0, locals := 45 } 5) (hQ : ∀ v, Qf v = xQf X WW (some (iV v), σ)) (hk1 : xAt WW k1 0 289) : WO X Qf WW σ 0 [(0, .ref (xqa (xXE X).2.2 184)), (1, .ref (xqa (xXE X).2.2 k1)), (2, iV p2)] [] (m_X13_dueOf n k1 p2 σ) := by
  unfold m_X13_dueOf
  refine x_ldcw C (1000000) wd1932 rfl dX13_dueOf_0 ?_
  refine x_istore_n (L' := [(3, _), (0, _), (1, _), (2, _)]) C dX13_dueOf_3 rfl (by decide) rfl ?_
  refine x_iconst C (0) dX13_dueOf_4 rfl ?_
  refine x_istore (L' := [(4, _), (3, _), (0, _), (1, _), (2, _)]) C dX13_dueOf_5 (by decide) rfl ?_
  refine x_pick [2, 3, 4, 1, 0] rfl ?_
  refine x_loop (fun t1 : Int × Int => σ) (fun t1 : Int × Int => [(0, .ref (xqa (xXE X).2.2 184)), (1, .ref (xqa (xXE X).2.2 k1)), (2, iV p2), (3, iV t1.1), (4, iV t1.2)]) (fun rec2 hr3 t1 => ?_) n (1000000, 0)
  refine x_iload C 4 dX13_dueOf_7 rfl ?_
  refine x_aload_n C 1 dX13_dueOf_9 rfl rfl ?_
  refine x_bipush C (9) dX13_dueOf_10 rfl ?_
  refine x_iald C hk1 (zIl _ rfl) dX13_dueOf_12 (fun _ => ?_)
  refine x_icmp_ge C 58 rfl rfl dX13_dueOf_13 rfl (fun c4 => x_op c4 ?_) (fun c4 => x_on c4 ?_)
  · refine x_iload_n C 3 dX13_dueOf_58 rfl rfl ?_
    exact x_iretQ C (hQ _) rfl dX13_dueOf_59
  · refine x_aload_n C 0 dX13_dueOf_16 rfl rfl ?_
    refine x_aload_n C 1 dX13_dueOf_17 rfl rfl ?_
    refine x_iload C 4 dX13_dueOf_18 rfl ?_
    refine x_callV C (ct_X13_isMeant _ _ k1 t1.2 σ hk1) mt_X13_isMeant vr_X13_isMeant wd1875 cls_X13 at_X13 rfl ⟨rfl, rfl, Nat.le_of_ble_eq_true rfl, Nat.le_of_ble_eq_true rfl⟩ rfl (by decide) dX13_dueOf_20 (kI (fun v5 => ?_))
    refine x_join (fun J => ∀ q9 : Int, WO X Qf WW σ 52 [(0, .ref (xqa (xXE X).2.2 184)), (1, .ref (xqa (xXE X).2.2 k1)), (2, iV p2), (3, iV q9), (4, iV t1.2)] [] (J q9)) ?_ ?_
    · intro q9
      refine x_inc C 4 (f := _) dX13_dueOf_52 rfl (by decide) (1) rfl (fun v10 => ?_)
      refine x_reL (L' := [(4, _), (0, _), (1, _), (2, _), (3, _)]) rfl ?_
      refine x_goto C 7 dX13_dueOf_55 rfl ?_
      refine x_pick [1, 2, 3, 4, 0] rfl ?_
      exact hr3 (q9, v10)
    · intro J7 hJ8
      refine x_if_eq C 52 rfl dX13_dueOf_23 rfl (fun c11 => x_op c11 ?_) (fun c11 => x_on c11 ?_)
      · refine x_pick [0, 1, 2, 3, 4] rfl ?_
        exact hJ8 t1.1
      · refine x_aload_n C 0 dX13_dueOf_26 rfl rfl ?_
        refine x_aload_n C 1 dX13_dueOf_27 rfl rfl ?_
        refine x_iload C 4 dX13_dueOf_28 rfl ?_
        refine x_iconst C (1) dX13_dueOf_30 rfl ?_
        refine x_callV C (ct_X13_order _ _ k1 t1.2 1 σ hk1) mt_X13_order vr_X13_order wd1879 cls_X13 at_X13 rfl ⟨rfl, rfl, Nat.le_of_ble_eq_true rfl, Nat.le_of_ble_eq_true rfl⟩ rfl (by decide) dX13_dueOf_31 (kI (fun v12 => ?_))
        refine x_iload_n C 2 dX13_dueOf_34 rfl rfl ?_
        refine x_icmp_ne C 52 rfl rfl dX13_dueOf_35 rfl (fun c13 => x_on c13 ?_) (fun c13 => x_op c13 ?_)
        · refine x_pick [0, 1, 2, 3, 4] rfl ?_
          exact hJ8 t1.1
        · refine x_aload_n C 0 dX13_dueOf_38 rfl rfl ?_
          refine x_iload_n C 3 dX13_dueOf_39 rfl rfl ?_
          refine x_aload_n C 0 dX13_dueOf_40 rfl rfl ?_
          refine x_aload_n C 1 dX13_dueOf_41 rfl rfl ?_
          refine x_iload C 4 dX13_dueOf_42 rfl ?_
          refine x_iconst C (3) dX13_dueOf_44 rfl ?_
          refine x_callV C (ct_X13_order _ _ k1 t1.2 3 σ hk1) mt_X13_order vr_X13_order wd1879 cls_X13 at_X13 rfl ⟨rfl, rfl, Nat.le_of_ble_eq_true rfl, Nat.le_of_ble_eq_true rfl⟩ rfl (Nat.le_of_ble_eq_true rfl) dX13_dueOf_45 (kI (fun v14 => ?_))
          refine x_callV C (ct_X13_lesser _ _ t1.1 v14 σ) mt_X13_lesser vr_X13_lesser wd1933 cls_X13 at_X13 rfl ⟨rfl, rfl, Nat.le_of_ble_eq_true rfl, Nat.le_of_ble_eq_true rfl⟩ rfl (by decide) dX13_dueOf_48 (kP ?_)
          refine x_letI (fun v15 => ?_)
          refine x_istore_n (L' := [(3, _), (0, _), (1, _), (2, _), (4, _)]) C dX13_dueOf_51 rfl (by decide) rfl ?_
          refine x_pick [1, 2, 3, 0, 4] rfl ?_
          exact hJ8 v15
theorem ct_X13_dueOf (l : Launch) (E : xE) (n : Nat) (k1 : Nat) (p2 : Int) (σ : xS) (hk1 : xAt WW k1 0 289)  : xMet l E yX13_dueOf cX13_dueOf 5 (some .int) { frames := 2, cells := 0, slots := 0, locals := 45 } [.ref (xqa E.2.2 184), .ref (xqa E.2.2 k1), iV p2] WW WW σ (xrI (m_X13_dueOf n k1 p2 σ) σ) := by
  refine xMet.of0 (by decide) (Nat.le_of_ble_eq_true rfl) rfl rfl (fun X hE C => ?_)
  subst hE
  exact xMap (fun v => (some (iV v), σ)) (wk_X13_dueOf C (fun _ => rfl) hk1)
theorem mt_X13_dueOf : xMth yX13_dueOf cX13_dueOf 5 (some .int) 2 := ⟨wd1931, wd164, ⟨by decide, by decide, rfl⟩⟩
theorem vr_X13_dueOf : xVir yX13_dueOf := ⟨wd1930, wd96⟩
def m_X13_findsBatches (n : Nat) (k1 : Nat) (σ : xS) : Option xS :=
  xlet (xput σ 184 19 0) fun s1 => loopF (fun rec3 (t2 : Int × Int × xS) => xck 4 289 <| if (zI (t2.2.2 k1 (4 : Int).toNat)) ≤ (zI t2.2.1) then some t2.2.2 else xlet (-1) fun v6 => loopF (fun rec8 (t7 : Int × Int) => xck 4 289 <| if (zI (t2.2.2 k1 (4 : Int).toNat)) ≤ (zI t7.2) then xlet (zor t2.1 (zshl 1 t7.1)) fun v11 => (m_X13_batchesOf n k1 t7.1 t2.2.2).bind fun v12 => loopF (fun rec14 (t13 : Int × xS) => if (zI t13.1) ≤ 0 then xlet (t2.2.1 + 1) fun v17 => rec3 (v11, v17, t13.2) else xck (zI (t13.2 184 19)) 60 <| xlet (xput t13.2 192 (zI (t13.2 184 19)).toNat t7.1) fun s18 => xlet (xput s18 184 19 ((s18 184 19) + 1)) fun s19 => xlet (t13.1 + (-1)) fun v20 => rec14 (v20, s19)) n (v12, t2.2.2) else xj (fun (q23 : Int) => xlet (t7.2 + 1) fun v24 => rec8 (q23, v24)) fun J21 => if (m_X13_has t2.1 t7.2) = 0 then xj (fun (q29 : Unit) => J21 t7.2) fun J27 => if (zI t7.1) = (-1) then J27 () else (m_X13_dueOf n k1 t7.2 t2.2.2).bind fun v31 => (m_X13_dueOf n k1 t7.1 t2.2.2).bind fun v32 => if (zI v32) ≤ (zI v31) then J21 t7.1 else J27 () else J21 t7.1) n (v6, 0)) n (0, 0, s1)
set_option maxHeartbeats 4000000 in
set_option maxRecDepth 100000 in
theorem wk_X13_findsBatches {X : xX} {Qf : xS → State → Prop} {n : Nat} {k1 : Nat} {σ : xS} (C : xCx X cX13_findsBatches "BakeryNightModel" none { frames := 4, cells := 0, slots := 0, locals := 91 } 6) (hQ : ∀ τ, Qf τ = xQf X WW (none, τ)) (hk1 : xAt WW k1 0 289) : WO X Qf WW σ 0 [(0, .ref (xqa (xXE X).2.2 184)), (1, .ref (xqa (xXE X).2.2 k1))] [] (m_X13_findsBatches n k1 σ) := by
  unfold m_X13_findsBatches
  refine x_aload_n C 0 dX13_findsBatches_0 rfl rfl ?_
  refine x_iconst C (0) dX13_findsBatches_1 rfl ?_
  refine x_put C 19 0 cls_X13 at_X13 (by decide) wd1521 rfl rfl rfl rfl (xV_pI rfl) dX13_findsBatches_2 ?_
  refine x_letS (fun s1 => ?_)
  refine x_iconst C (0) dX13_findsBatches_5 rfl ?_
  refine x_istore_n (L' := [(2, _), (0, _), (1, _)]) C dX13_findsBatches_6 rfl (by decide) rfl ?_
  refine x_iconst C (0) dX13_findsBatches_7 rfl ?_
  refine x_istore_n (L' := [(3, _), (2, _), (0, _), (1, _)]) C dX13_findsBatches_8 rfl (by decide) rfl ?_
  refine x_pick [2, 3, 1, 0] rfl ?_
  refine x_loop (fun t2 : Int × Int × xS => t2.2.2) (fun t2 : Int × Int × xS => [(0, .ref (xqa (xXE X).2.2 184)), (1, .ref (xqa (xXE X).2.2 k1)), (2, iV t2.1), (3, iV t2.2.1)]) (fun rec3 hr4 t2 => ?_) n (0, 0, s1)
  refine x_iload_n C 3 dX13_findsBatches_9 rfl rfl ?_
  refine x_aload_n C 1 dX13_findsBatches_10 rfl rfl ?_
  refine x_iconst C (4) dX13_findsBatches_11 rfl ?_
  refine x_iald C hk1 (zIl _ rfl) dX13_findsBatches_12 (fun _ => ?_)
  refine x_icmp_ge C 127 rfl rfl dX13_findsBatches_13 rfl (fun c5 => x_op c5 ?_) (fun c5 => x_on c5 ?_)
  · exact x_vretQ C (hQ _) rfl dX13_findsBatches_127
  · refine x_iconst C (-1) dX13_findsBatches_16 rfl ?_
    refine x_letI (fun v6 => ?_)
    refine x_istore (L' := [(4, _), (0, _), (1, _), (2, _), (3, _)]) C dX13_findsBatches_17 (by decide) rfl ?_
    refine x_iconst C (0) dX13_findsBatches_19 rfl ?_
    refine x_istore (L' := [(5, _), (4, _), (0, _), (1, _), (2, _), (3, _)]) C dX13_findsBatches_20 (by decide) rfl ?_
    refine x_pick [2, 3, 4, 5, 1, 0] rfl ?_
    refine x_loop (fun t7 : Int × Int => t2.2.2) (fun t7 : Int × Int => [(0, .ref (xqa (xXE X).2.2 184)), (1, .ref (xqa (xXE X).2.2 k1)), (2, iV t2.1), (3, iV t2.2.1), (4, iV t7.1), (5, iV t7.2)]) (fun rec8 hr9 t7 => ?_) n (v6, 0)
    refine x_iload C 5 dX13_findsBatches_22 rfl ?_
    refine x_aload_n C 1 dX13_findsBatches_24 rfl rfl ?_
    refine x_iconst C (4) dX13_findsBatches_25 rfl ?_
    refine x_iald C hk1 (zIl _ rfl) dX13_findsBatches_26 (fun _ => ?_)
    refine x_icmp_ge C 73 rfl rfl dX13_findsBatches_27 rfl (fun c10 => x_op c10 ?_) (fun c10 => x_on c10 ?_)
    · refine x_iload_n C 2 dX13_findsBatches_73 rfl rfl ?_
      refine x_iconst C (1) dX13_findsBatches_74 rfl ?_
      refine x_iload C 4 dX13_findsBatches_75 rfl ?_
      refine x_ishl C dX13_findsBatches_77 ?_
      refine x_ior C dX13_findsBatches_78 ?_
      refine x_letI (fun v11 => ?_)
      refine x_istore_n (L' := [(2, _), (0, _), (1, _), (3, _), (4, _), (5, _)]) C dX13_findsBatches_79 rfl (by decide) rfl ?_
      refine x_aload_n C 1 dX13_findsBatches_80 rfl rfl ?_
      refine x_aload_n C 2 dX13_findsBatches_81 rfl rfl ?_
      refine x_iload C 4 dX13_findsBatches_82 rfl ?_
      refine x_callV C (ct_X13_batchesOf _ _ n k1 t7.1 t2.2.2 hk1) mt_X13_batchesOf vr_X13_batchesOf wd1891 cls_X13 at_X13 rfl ⟨rfl, rfl, Nat.le_of_ble_eq_true rfl, Nat.le_of_ble_eq_true rfl⟩ rfl (by decide) dX13_findsBatches_84 (kI (fun v12 => ?_))
      refine x_istore (L' := [(5, _), (2, _), (0, _), (1, _), (3, _), (4, _)]) C dX13_findsBatches_87 (by decide) rfl ?_
      refine x_pick [2, 3, 1, 4, 5, 0] rfl ?_
      refine x_loop (fun t13 : Int × xS => t13.2) (fun t13 : Int × xS => [(0, .ref (xqa (xXE X).2.2 184)), (1, .ref (xqa (xXE X).2.2 k1)), (2, iV v11), (3, iV t2.2.1), (4, iV t7.1), (5, iV t13.1)]) (fun rec14 hr15 t13 => ?_) n (v12, t2.2.2)
      refine x_iload C 5 dX13_findsBatches_89 rfl ?_
      refine x_if_le C 121 rfl dX13_findsBatches_91 rfl (fun c16 => x_op c16 ?_) (fun c16 => x_on c16 ?_)
      · refine x_inc C 3 (f := _) dX13_findsBatches_121 rfl (by decide) (1) rfl (fun v17 => ?_)
        refine x_reL (L' := [(3, _), (0, _), (1, _), (2, _), (4, _), (5, _)]) rfl ?_
        refine x_goto C 9 dX13_findsBatches_124 rfl ?_
        refine x_pick [1, 2, 3, 0] rfl ?_
        exact hr4 (v11, v17, t13.2)
      · refine x_aload_n C 0 dX13_findsBatches_94 rfl rfl ?_
        refine x_get (v := .ref (xqa (xXE X).2.2 192)) C 18 cls_X13 at_X13 (by decide) wd1520 rfl (xV_r (rt_X13_batchDough  _) rfl) dX13_findsBatches_95 ?_
        refine x_aload_n C 0 dX13_findsBatches_98 rfl rfl ?_
        refine x_get (v := iV (t13.2 184 19)) C 19 cls_X13 at_X13 (by decide) wd1521 rfl rfl dX13_findsBatches_99 ?_
        refine x_iload C 4 dX13_findsBatches_102 rfl ?_
        refine x_iast C at_X13_batchDough rfl dX13_findsBatches_104 (fun _ => ?_)
        refine x_letS (fun s18 => ?_)
        refine x_aload_n C 0 dX13_findsBatches_105 rfl rfl ?_
        refine x_aload_n C 0 dX13_findsBatches_106 rfl rfl ?_
        refine x_get (v := iV (s18 184 19)) C 19 cls_X13 at_X13 (by decide) wd1521 rfl rfl dX13_findsBatches_107 ?_
        refine x_iconst C (1) dX13_findsBatches_110 rfl ?_
        refine x_iadd C dX13_findsBatches_111 ?_
        refine x_put C 19 ((s18 184 19) + 1) cls_X13 at_X13 (by decide) wd1521 rfl rfl rfl rfl (xV_pI rfl) dX13_findsBatches_112 ?_
        refine x_letS (fun s19 => ?_)
        refine x_inc C 5 (f := _) dX13_findsBatches_115 rfl (by decide) (-1) rfl (fun v20 => ?_)
        refine x_reL (L' := [(5, _), (0, _), (1, _), (2, _), (3, _), (4, _)]) rfl ?_
        refine x_goto C 89 dX13_findsBatches_118 rfl ?_
        refine x_pick [1, 2, 3, 4, 5, 0] rfl ?_
        exact hr15 (v20, s19)
    · refine x_aload_n C 0 dX13_findsBatches_30 rfl rfl ?_
      refine x_iload_n C 2 dX13_findsBatches_31 rfl rfl ?_
      refine x_iload C 5 dX13_findsBatches_32 rfl ?_
      refine x_callV C (ct_X13_has _ _ t2.1 t7.2 t2.2.2) mt_X13_has vr_X13_has wd1746 cls_X13 at_X13 rfl ⟨rfl, rfl, Nat.le_of_ble_eq_true rfl, Nat.le_of_ble_eq_true rfl⟩ rfl (by decide) dX13_findsBatches_34 (kP ?_)
      refine x_join (fun J => ∀ q23 : Int, WO X Qf WW t2.2.2 67 [(0, .ref (xqa (xXE X).2.2 184)), (1, .ref (xqa (xXE X).2.2 k1)), (2, iV t2.1), (3, iV t2.2.1), (4, iV q23), (5, iV t7.2)] [] (J q23)) ?_ ?_
      · intro q23
        refine x_inc C 5 (f := _) dX13_findsBatches_67 rfl (by decide) (1) rfl (fun v24 => ?_)
        refine x_reL (L' := [(5, _), (0, _), (1, _), (2, _), (3, _), (4, _)]) rfl ?_
        refine x_goto C 22 dX13_findsBatches_70 rfl ?_
        refine x_pick [1, 2, 3, 4, 5, 0] rfl ?_
        exact hr9 (q23, v24)
      · intro J21 hJ22
        refine x_if_ne C 67 (zI_bo (bo_X13_has _ _)) dX13_findsBatches_37 rfl (fun c25 => x_on c25 ?_) (fun c25 => x_op c25 ?_)
        · refine x_pick [0, 1, 2, 3, 4, 5] rfl ?_
          exact hJ22 t7.1
        · refine x_iload C 4 dX13_findsBatches_40 rfl ?_
          refine x_iconst C (-1) dX13_findsBatches_42 rfl ?_
          refine x_join (fun J => ∀ q29 : Unit, WO X Qf WW t2.2.2 63 [(0, .ref (xqa (xXE X).2.2 184)), (1, .ref (xqa (xXE X).2.2 k1)), (2, iV t2.1), (3, iV t2.2.1), (5, iV t7.2)] [] (J q29)) ?_ ?_
          · intro q29
            refine x_iload C 4 dX13_findsBatches_63 rfl ?_
            refine x_istore (L' := [(4, _), (0, _), (1, _), (2, _), (3, _), (5, _)]) C dX13_findsBatches_65 (by decide) rfl ?_
            refine x_pick [1, 2, 3, 4, 0, 5] rfl ?_
            exact hJ22 t7.2
          · intro J27 hJ28
            refine x_icmp_eq C 63 rfl (zIl _ rfl) dX13_findsBatches_43 rfl (fun c30 => x_op c30 ?_) (fun c30 => x_on c30 ?_)
            · refine x_pick [0, 1, 2, 3, 5] rfl ?_
              exact hJ28 ()
            · refine x_aload_n C 0 dX13_findsBatches_46 rfl rfl ?_
              refine x_aload_n C 1 dX13_findsBatches_47 rfl rfl ?_
              refine x_iload C 5 dX13_findsBatches_48 rfl ?_
              refine x_callV C (ct_X13_dueOf _ _ n k1 t7.2 t2.2.2 hk1) mt_X13_dueOf vr_X13_dueOf wd1928 cls_X13 at_X13 rfl ⟨rfl, rfl, Nat.le_of_ble_eq_true rfl, Nat.le_of_ble_eq_true rfl⟩ rfl (by decide) dX13_findsBatches_50 (kI (fun v31 => ?_))
              refine x_aload_n C 0 dX13_findsBatches_53 rfl rfl ?_
              refine x_aload_n C 1 dX13_findsBatches_54 rfl rfl ?_
              refine x_iload C 4 dX13_findsBatches_55 rfl ?_
              refine x_callV C (ct_X13_dueOf _ _ n k1 t7.1 t2.2.2 hk1) mt_X13_dueOf vr_X13_dueOf wd1928 cls_X13 at_X13 rfl ⟨rfl, rfl, Nat.le_of_ble_eq_true rfl, Nat.le_of_ble_eq_true rfl⟩ rfl (Nat.le_of_ble_eq_true rfl) dX13_findsBatches_57 (kI (fun v32 => ?_))
              refine x_icmp_ge C 67 rfl rfl dX13_findsBatches_60 rfl (fun c33 => x_op c33 ?_) (fun c33 => x_on c33 ?_)
              · refine x_pick [0, 1, 2, 3, 4, 5] rfl ?_
                exact hJ22 t7.1
              · refine x_pick [0, 1, 2, 3, 5] rfl ?_
                exact hJ28 ()
theorem ct_X13_findsBatches (l : Launch) (E : xE) (n : Nat) (k1 : Nat) (σ : xS) (hk1 : xAt WW k1 0 289)  : xMet l E yX13_findsBatches cX13_findsBatches 6 none { frames := 4, cells := 0, slots := 0, locals := 91 } [.ref (xqa E.2.2 184), .ref (xqa E.2.2 k1)] WW WW σ (xrV (m_X13_findsBatches n k1 σ)) := by
  refine xMet.of0 (by decide) (Nat.le_of_ble_eq_true rfl) rfl rfl (fun X hE C => ?_)
  subst hE
  exact xMap (fun q => (none, q)) (wk_X13_findsBatches C (fun _ => rfl) hk1)
theorem mt_X13_findsBatches : xMth yX13_findsBatches cX13_findsBatches 6 none 1 := ⟨wd1927, wd164, ⟨by decide, by decide, rfl⟩⟩
theorem vr_X13_findsBatches : xVir yX13_findsBatches := ⟨wd1926, wd95⟩
def m_X13_isDough (p1 : Int) (σ : xS) : Option Int :=
  xck 4 289 <| some (m_X13_isIn (zI p1) 0 ((zI (σ 185 (4 : Int).toNat)) - 1))
set_option maxHeartbeats 4000000 in
set_option maxRecDepth 100000 in
theorem wk_X13_isDough {X : xX} {Qf : Int → State → Prop} {p1 : Int} {σ : xS} (C : xCx X cX13_isDough "BakeryNightModel" (some .boolean) { frames := 1, cells := 0, slots := 0, locals := 26 } 2) (hQ : ∀ v, Qf v = xQf X WW (some (iV v), σ))  : WO X Qf WW σ 0 [(0, .ref (xqa (xXE X).2.2 184)), (1, iV p1)] [] (m_X13_isDough p1 σ) := by
  unfold m_X13_isDough
  refine x_aload_n C 0 dX13_isDough_0 rfl rfl ?_
  refine x_iload_n C 1 dX13_isDough_1 rfl rfl ?_
  refine x_i2l C dX13_isDough_2 ?_
  refine x_lconst C 0 dX13_isDough_3 rfl ?_
  refine x_aload_n C 0 dX13_isDough_4 rfl rfl ?_
  refine x_get (v := .ref (xqa (xXE X).2.2 185)) C 0 cls_X13 at_X13 (by decide) wd1502 rfl (xV_r (rt_X13_bakery  _) rfl) dX13_isDough_5 ?_
  refine x_iconst C (4) dX13_isDough_8 rfl ?_
  refine x_iald C at_X13_bakery (zIl _ rfl) dX13_isDough_9 (fun _ => ?_)
  refine x_i2l C dX13_isDough_10 ?_
  refine x_lconst C 1 dX13_isDough_11 rfl ?_
  refine x_lsub C dX13_isDough_12 ?_
  refine x_callV C (ct_X13_isIn _ _ (zI p1) 0 ((zI (σ 185 (4 : Int).toNat)) - 1) σ) mt_X13_isIn vr_X13_isIn wd1680 cls_X13 at_X13 rfl ⟨rfl, rfl, Nat.le_of_ble_eq_true rfl, Nat.le_of_ble_eq_true rfl⟩ rfl (by decide) dX13_isDough_13 (kP ?_)
  exact x_zretQ C (hQ _) rfl (bo_X13_isIn _ _ _) dX13_isDough_16
theorem ct_X13_isDough (l : Launch) (E : xE) (p1 : Int) (σ : xS)   : xMet l E yX13_isDough cX13_isDough 2 (some .boolean) { frames := 1, cells := 0, slots := 0, locals := 26 } [.ref (xqa E.2.2 184), iV p1] WW WW σ (xrI (m_X13_isDough p1 σ) σ) := by
  refine xMet.of0 (by decide) (Nat.le_of_ble_eq_true rfl) rfl rfl (fun X hE C => ?_)
  subst hE
  exact xMap (fun v => (some (iV v), σ)) (wk_X13_isDough C (fun _ => rfl) )
theorem mt_X13_isDough : xMth yX13_isDough cX13_isDough 2 (some .boolean) 1 := ⟨wd1870, wd164, ⟨by decide, by decide, rfl⟩⟩
theorem vr_X13_isDough : xVir yX13_isDough := ⟨wd1869, wd84⟩
def m_X13_isOven (p1 : Int) (σ : xS) : Option Int :=
  xck 5 289 <| some (m_X13_isIn (zI p1) 0 ((zI (σ 185 (5 : Int).toNat)) - 1))
set_option maxHeartbeats 4000000 in
set_option maxRecDepth 100000 in
theorem wk_X13_isOven {X : xX} {Qf : Int → State → Prop} {p1 : Int} {σ : xS} (C : xCx X cX13_isOven "BakeryNightModel" (some .boolean) { frames := 1, cells := 0, slots := 0, locals := 26 } 2) (hQ : ∀ v, Qf v = xQf X WW (some (iV v), σ))  : WO X Qf WW σ 0 [(0, .ref (xqa (xXE X).2.2 184)), (1, iV p1)] [] (m_X13_isOven p1 σ) := by
  unfold m_X13_isOven
  refine x_aload_n C 0 dX13_isOven_0 rfl rfl ?_
  refine x_iload_n C 1 dX13_isOven_1 rfl rfl ?_
  refine x_i2l C dX13_isOven_2 ?_
  refine x_lconst C 0 dX13_isOven_3 rfl ?_
  refine x_aload_n C 0 dX13_isOven_4 rfl rfl ?_
  refine x_get (v := .ref (xqa (xXE X).2.2 185)) C 0 cls_X13 at_X13 (by decide) wd1502 rfl (xV_r (rt_X13_bakery  _) rfl) dX13_isOven_5 ?_
  refine x_iconst C (5) dX13_isOven_8 rfl ?_
  refine x_iald C at_X13_bakery (zIl _ rfl) dX13_isOven_9 (fun _ => ?_)
  refine x_i2l C dX13_isOven_10 ?_
  refine x_lconst C 1 dX13_isOven_11 rfl ?_
  refine x_lsub C dX13_isOven_12 ?_
  refine x_callV C (ct_X13_isIn _ _ (zI p1) 0 ((zI (σ 185 (5 : Int).toNat)) - 1) σ) mt_X13_isIn vr_X13_isIn wd1680 cls_X13 at_X13 rfl ⟨rfl, rfl, Nat.le_of_ble_eq_true rfl, Nat.le_of_ble_eq_true rfl⟩ rfl (by decide) dX13_isOven_13 (kP ?_)
  exact x_zretQ C (hQ _) rfl (bo_X13_isIn _ _ _) dX13_isOven_16
theorem ct_X13_isOven (l : Launch) (E : xE) (p1 : Int) (σ : xS)   : xMet l E yX13_isOven cX13_isOven 2 (some .boolean) { frames := 1, cells := 0, slots := 0, locals := 26 } [.ref (xqa E.2.2 184), iV p1] WW WW σ (xrI (m_X13_isOven p1 σ) σ) := by
  refine xMet.of0 (by decide) (Nat.le_of_ble_eq_true rfl) rfl rfl (fun X hE C => ?_)
  subst hE
  exact xMap (fun v => (some (iV v), σ)) (wk_X13_isOven C (fun _ => rfl) )
theorem mt_X13_isOven : xMth yX13_isOven cX13_isOven 2 (some .boolean) 1 := ⟨wd2037, wd164, ⟨by decide, by decide, rfl⟩⟩
theorem vr_X13_isOven : xVir yX13_isOven := ⟨wd2036, wd117⟩
def m_X13_isShop (p1 : Int) (σ : xS) : Option Int :=
  xck 6 289 <| some (m_X13_isIn (zI p1) 0 ((zI (σ 185 (6 : Int).toNat)) - 1))
set_option maxHeartbeats 4000000 in
set_option maxRecDepth 100000 in
theorem wk_X13_isShop {X : xX} {Qf : Int → State → Prop} {p1 : Int} {σ : xS} (C : xCx X cX13_isShop "BakeryNightModel" (some .boolean) { frames := 1, cells := 0, slots := 0, locals := 26 } 2) (hQ : ∀ v, Qf v = xQf X WW (some (iV v), σ))  : WO X Qf WW σ 0 [(0, .ref (xqa (xXE X).2.2 184)), (1, iV p1)] [] (m_X13_isShop p1 σ) := by
  unfold m_X13_isShop
  refine x_aload_n C 0 dX13_isShop_0 rfl rfl ?_
  refine x_iload_n C 1 dX13_isShop_1 rfl rfl ?_
  refine x_i2l C dX13_isShop_2 ?_
  refine x_lconst C 0 dX13_isShop_3 rfl ?_
  refine x_aload_n C 0 dX13_isShop_4 rfl rfl ?_
  refine x_get (v := .ref (xqa (xXE X).2.2 185)) C 0 cls_X13 at_X13 (by decide) wd1502 rfl (xV_r (rt_X13_bakery  _) rfl) dX13_isShop_5 ?_
  refine x_bipush C (6) dX13_isShop_8 rfl ?_
  refine x_iald C at_X13_bakery (zIl _ rfl) dX13_isShop_10 (fun _ => ?_)
  refine x_i2l C dX13_isShop_11 ?_
  refine x_lconst C 1 dX13_isShop_12 rfl ?_
  refine x_lsub C dX13_isShop_13 ?_
  refine x_callV C (ct_X13_isIn _ _ (zI p1) 0 ((zI (σ 185 (6 : Int).toNat)) - 1) σ) mt_X13_isIn vr_X13_isIn wd1680 cls_X13 at_X13 rfl ⟨rfl, rfl, Nat.le_of_ble_eq_true rfl, Nat.le_of_ble_eq_true rfl⟩ rfl (by decide) dX13_isShop_14 (kP ?_)
  exact x_zretQ C (hQ _) rfl (bo_X13_isIn _ _ _) dX13_isShop_17
theorem ct_X13_isShop (l : Launch) (E : xE) (p1 : Int) (σ : xS)   : xMet l E yX13_isShop cX13_isShop 2 (some .boolean) { frames := 1, cells := 0, slots := 0, locals := 26 } [.ref (xqa E.2.2 184), iV p1] WW WW σ (xrI (m_X13_isShop p1 σ) σ) := by
  refine xMet.of0 (by decide) (Nat.le_of_ble_eq_true rfl) rfl rfl (fun X hE C => ?_)
  subst hE
  exact xMap (fun v => (some (iV v), σ)) (wk_X13_isShop C (fun _ => rfl) )
theorem mt_X13_isShop : xMth yX13_isShop cX13_isShop 2 (some .boolean) 1 := ⟨wd2115, wd164, ⟨by decide, by decide, rfl⟩⟩
theorem vr_X13_isShop : xVir yX13_isShop := ⟨wd2114, wd127⟩
def m_X13_orderCount (σ : xS) : Option (Int × xS) :=
  xlet (xput σ 184 7 0) fun s1 => xck 9 289 <| some (s1 185 (9 : Int).toNat, s1)
set_option maxHeartbeats 4000000 in
set_option maxRecDepth 100000 in
theorem wk_X13_orderCount {X : xX} {Qf : (Int × xS) → State → Prop} {σ : xS} (C : xCx X cX13_orderCount "BakeryNightModel" (some .int) { frames := 0, cells := 0, slots := 0, locals := 0 } 1) (hQ : ∀ v τ, Qf (v, τ) = xQf X WW (some (iV v), τ))  : WO X Qf WW σ 0 [(0, .ref (xqa (xXE X).2.2 184))] [] (m_X13_orderCount σ) := by
  unfold m_X13_orderCount
  refine x_aload_n C 0 dX13_orderCount_0 rfl rfl ?_
  refine x_iconst C (0) dX13_orderCount_1 rfl ?_
  refine x_put C 7 0 cls_X13 at_X13 (by decide) wd1509 rfl rfl rfl rfl (xV_pI rfl) dX13_orderCount_2 ?_
  refine x_letS (fun s1 => ?_)
  refine x_aload_n C 0 dX13_orderCount_5 rfl rfl ?_
  refine x_get (v := .ref (xqa (xXE X).2.2 185)) C 0 cls_X13 at_X13 (by decide) wd1502 rfl (xV_r (rt_X13_bakery  _) rfl) dX13_orderCount_6 ?_
  refine x_bipush C (9) dX13_orderCount_9 rfl ?_
  refine x_iald C at_X13_bakery (zIl _ rfl) dX13_orderCount_11 (fun _ => ?_)
  exact x_iretQ C (hQ _ _) rfl dX13_orderCount_12
theorem ct_X13_orderCount (l : Launch) (E : xE) (σ : xS)   : xMet l E yX13_orderCount cX13_orderCount 1 (some .int) { frames := 0, cells := 0, slots := 0, locals := 0 } [.ref (xqa E.2.2 184)] WW WW σ (xrS (m_X13_orderCount σ)) := by
  refine xMet.of0 (by decide) (Nat.le_of_ble_eq_true rfl) rfl rfl (fun X hE C => ?_)
  subst hE
  exact xMap (fun q => (some (iV q.1), q.2)) (wk_X13_orderCount C (fun _ _ => rfl) )
theorem mt_X13_orderCount : xMth yX13_orderCount cX13_orderCount 1 (some .int) 0 := ⟨wd1862, wd164, ⟨by decide, by decide, rfl⟩⟩
theorem vr_X13_orderCount : xVir yX13_orderCount := ⟨wd1860, wd1861⟩
def m_X13_orderedLoaves (n : Nat) (p1 : Int) (σ : xS) : Option (Int × xS) :=
  xlet (xput σ 184 7 0) fun s1 => (m_X13_isDough p1 s1).bind fun v2 => xj (fun (q6 : Int) => some (q6, s1)) fun J4 => if (zI v2) = 0 then J4 (-1) else (m_X13_loavesOf n 185 p1 s1).bind fun v8 => J4 v8
set_option maxHeartbeats 4000000 in
set_option maxRecDepth 100000 in
theorem wk_X13_orderedLoaves {X : xX} {Qf : (Int × xS) → State → Prop} {n : Nat} {p1 : Int} {σ : xS} (C : xCx X cX13_orderedLoaves "BakeryNightModel" (some .int) { frames := 3, cells := 0, slots := 0, locals := 69 } 2) (hQ : ∀ v τ, Qf (v, τ) = xQf X WW (some (iV v), τ))  : WO X Qf WW σ 0 [(0, .ref (xqa (xXE X).2.2 184)), (1, iV p1)] [] (m_X13_orderedLoaves n p1 σ) := by
  unfold m_X13_orderedLoaves
  refine x_aload_n C 0 dX13_orderedLoaves_0 rfl rfl ?_
  refine x_iconst C (0) dX13_orderedLoaves_1 rfl ?_
  refine x_put C 7 0 cls_X13 at_X13 (by decide) wd1509 rfl rfl rfl rfl (xV_pI rfl) dX13_orderedLoaves_2 ?_
  refine x_letS (fun s1 => ?_)
  refine x_aload_n C 0 dX13_orderedLoaves_5 rfl rfl ?_
  refine x_iload_n C 1 dX13_orderedLoaves_6 rfl rfl ?_
  refine x_callV C (ct_X13_isDough _ _ p1 s1) mt_X13_isDough vr_X13_isDough wd1867 cls_X13 at_X13 rfl ⟨rfl, rfl, Nat.le_of_ble_eq_true rfl, Nat.le_of_ble_eq_true rfl⟩ rfl (by decide) dX13_orderedLoaves_7 (kI (fun v2 => ?_))
  refine x_join (fun J => ∀ q6 : Int, WO X Qf WW s1 26 [] [iV q6] (J q6)) ?_ ?_
  · intro q6
    exact x_iretQ C (hQ _ _) rfl dX13_orderedLoaves_26
  · intro J4 hJ5
    refine x_if_eq C 25 rfl dX13_orderedLoaves_10 rfl (fun c7 => x_op c7 ?_) (fun c7 => x_on c7 ?_)
    · refine x_iconst C (-1) dX13_orderedLoaves_25 rfl ?_
      refine x_pick [] rfl ?_
      exact hJ5 (-1)
    · refine x_aload_n C 0 dX13_orderedLoaves_13 rfl rfl ?_
      refine x_aload_n C 0 dX13_orderedLoaves_14 rfl rfl ?_
      refine x_get (v := .ref (xqa (xXE X).2.2 185)) C 0 cls_X13 at_X13 (by decide) wd1502 rfl (xV_r (rt_X13_bakery  _) rfl) dX13_orderedLoaves_15 ?_
      refine x_iload_n C 1 dX13_orderedLoaves_18 rfl rfl ?_
      refine x_callV C (ct_X13_loavesOf _ _ n 185 p1 s1 at_X13_bakery) mt_X13_loavesOf vr_X13_loavesOf wd1871 cls_X13 at_X13 rfl ⟨rfl, rfl, Nat.le_of_ble_eq_true rfl, Nat.le_of_ble_eq_true rfl⟩ rfl (by decide) dX13_orderedLoaves_19 (kI (fun v8 => ?_))
      refine x_goto C 26 dX13_orderedLoaves_22 rfl ?_
      refine x_pick [] rfl ?_
      exact hJ5 v8
theorem ct_X13_orderedLoaves (l : Launch) (E : xE) (n : Nat) (p1 : Int) (σ : xS)   : xMet l E yX13_orderedLoaves cX13_orderedLoaves 2 (some .int) { frames := 3, cells := 0, slots := 0, locals := 69 } [.ref (xqa E.2.2 184), iV p1] WW WW σ (xrS (m_X13_orderedLoaves n p1 σ)) := by
  refine xMet.of0 (by decide) (Nat.le_of_ble_eq_true rfl) rfl rfl (fun X hE C => ?_)
  subst hE
  exact xMap (fun q => (some (iV q.1), q.2)) (wk_X13_orderedLoaves C (fun _ _ => rfl) )
theorem mt_X13_orderedLoaves : xMth yX13_orderedLoaves cX13_orderedLoaves 2 (some .int) 1 := ⟨wd1866, wd164, ⟨by decide, by decide, rfl⟩⟩
theorem vr_X13_orderedLoaves : xVir yX13_orderedLoaves := ⟨wd1864, wd1865⟩
def m_X13_batchCount (n : Nat) (σ : xS) : Option (Int × xS) :=
  xlet (xput σ 184 7 0) fun s1 => (m_X13_allBatches n 185 s1).bind fun v2 => xlet (if (zI v2) ≤ 60 then v2 else (-3)) fun v3 => some (v3, s1)
set_option maxHeartbeats 4000000 in
set_option maxRecDepth 100000 in
theorem wk_X13_batchCount {X : xX} {Qf : (Int × xS) → State → Prop} {n : Nat} {σ : xS} (C : xCx X cX13_batchCount "BakeryNightModel" (some .int) { frames := 5, cells := 0, slots := 0, locals := 114 } 2) (hQ : ∀ v τ, Qf (v, τ) = xQf X WW (some (iV v), τ))  : WO X Qf WW σ 0 [(0, .ref (xqa (xXE X).2.2 184))] [] (m_X13_batchCount n σ) := by
  unfold m_X13_batchCount
  refine x_aload_n C 0 dX13_batchCount_0 rfl rfl ?_
  refine x_iconst C (0) dX13_batchCount_1 rfl ?_
  refine x_put C 7 0 cls_X13 at_X13 (by decide) wd1509 rfl rfl rfl rfl (xV_pI rfl) dX13_batchCount_2 ?_
  refine x_letS (fun s1 => ?_)
  refine x_aload_n C 0 dX13_batchCount_5 rfl rfl ?_
  refine x_aload_n C 0 dX13_batchCount_6 rfl rfl ?_
  refine x_get (v := .ref (xqa (xXE X).2.2 185)) C 0 cls_X13 at_X13 (by decide) wd1502 rfl (xV_r (rt_X13_bakery  _) rfl) dX13_batchCount_7 ?_
  refine x_callV C (ct_X13_allBatches _ _ n 185 s1 at_X13_bakery) mt_X13_allBatches vr_X13_allBatches wd1887 cls_X13 at_X13 rfl ⟨rfl, rfl, Nat.le_of_ble_eq_true rfl, Nat.le_of_ble_eq_true rfl⟩ rfl (by decide) dX13_batchCount_10 (kI (fun v2 => ?_))
  refine x_istore_n (L' := [(1, _), (0, _)]) C dX13_batchCount_13 rfl (by decide) rfl ?_
  refine x_iload_n C 0 dX13_batchCount_14 rfl rfl ?_
  refine x_bipush C (60) dX13_batchCount_15 rfl ?_
  refine x_tree 26 [] (fun v3 => ?_) (fun hJ4 => ?_)
  · exact x_iretQ C (hQ _ _) rfl dX13_batchCount_26
  · refine x_icmp_le C 25 rfl (zIl _ rfl) dX13_batchCount_17 rfl (fun c5 => ?_) (fun c5 => ?_)
    · refine x_iload_n C 0 dX13_batchCount_25 rfl rfl ?_
      exact hJ4 _ (by rw [if_pos c5])
    · refine x_bipush C (-3) dX13_batchCount_20 rfl ?_
      refine x_goto C 26 dX13_batchCount_22 rfl ?_
      exact hJ4 _ (by rw [if_neg c5])
theorem ct_X13_batchCount (l : Launch) (E : xE) (n : Nat) (σ : xS)   : xMet l E yX13_batchCount cX13_batchCount 2 (some .int) { frames := 5, cells := 0, slots := 0, locals := 114 } [.ref (xqa E.2.2 184)] WW WW σ (xrS (m_X13_batchCount n σ)) := by
  refine xMet.of0 (by decide) (Nat.le_of_ble_eq_true rfl) rfl rfl (fun X hE C => ?_)
  subst hE
  exact xMap (fun q => (some (iV q.1), q.2)) (wk_X13_batchCount C (fun _ _ => rfl) )
theorem mt_X13_batchCount : xMth yX13_batchCount cX13_batchCount 2 (some .int) 0 := ⟨wd1886, wd164, ⟨by decide, by decide, rfl⟩⟩
theorem vr_X13_batchCount : xVir yX13_batchCount := ⟨wd1884, wd1885⟩
def m_X13_slowed (k1 : Nat) (p2 : Int) (σ : xS) : Option Int :=
  xck 0 289 <| (m_X13_up (24 * p2) (σ k1 (0 : Int).toNat) σ).bind fun v1 => some v1
set_option maxHeartbeats 4000000 in
set_option maxRecDepth 100000 in
theorem wk_X13_slowed {X : xX} {Qf : Int → State → Prop} {k1 : Nat} {p2 : Int} {σ : xS} (C : xCx X cX13_slowed "BakeryNightModel" (some .int) { frames := 1, cells := 0, slots := 0, locals := 22 } 3) (hQ : ∀ v, Qf v = xQf X WW (some (iV v), σ)) (hk1 : xAt WW k1 0 289) : WO X Qf WW σ 0 [(0, .ref (xqa (xXE X).2.2 184)), (1, .ref (xqa (xXE X).2.2 k1)), (2, iV p2)] [] (m_X13_slowed k1 p2 σ) := by
  unfold m_X13_slowed
  refine x_aload_n C 0 dX13_slowed_0 rfl rfl ?_
  refine x_bipush C (24) dX13_slowed_1 rfl ?_
  refine x_iload_n C 2 dX13_slowed_3 rfl rfl ?_
  refine x_imul C dX13_slowed_4 ?_
  refine x_aload_n C 1 dX13_slowed_5 rfl rfl ?_
  refine x_iconst C (0) dX13_slowed_6 rfl ?_
  refine x_iald C hk1 (zIl _ rfl) dX13_slowed_7 (fun _ => ?_)
  refine x_callV C (ct_X13_up _ _ (24 * p2) (σ k1 (0 : Int).toNat) σ) mt_X13_up vr_X13_up wd1899 cls_X13 at_X13 rfl ⟨rfl, rfl, Nat.le_of_ble_eq_true rfl, Nat.le_of_ble_eq_true rfl⟩ rfl (by decide) dX13_slowed_8 (kI (fun v1 => ?_))
  exact x_iretQ C (hQ _) rfl dX13_slowed_11
theorem ct_X13_slowed (l : Launch) (E : xE) (k1 : Nat) (p2 : Int) (σ : xS) (hk1 : xAt WW k1 0 289)  : xMet l E yX13_slowed cX13_slowed 3 (some .int) { frames := 1, cells := 0, slots := 0, locals := 22 } [.ref (xqa E.2.2 184), .ref (xqa E.2.2 k1), iV p2] WW WW σ (xrI (m_X13_slowed k1 p2 σ) σ) := by
  refine xMet.of0 (by decide) (Nat.le_of_ble_eq_true rfl) rfl rfl (fun X hE C => ?_)
  subst hE
  exact xMap (fun v => (some (iV v), σ)) (wk_X13_slowed C (fun _ => rfl) hk1)
theorem mt_X13_slowed : xMth yX13_slowed cX13_slowed 3 (some .int) 2 := ⟨wd1910, wd164, ⟨by decide, by decide, rfl⟩⟩
theorem vr_X13_slowed : xVir yX13_slowed := ⟨wd1909, wd92⟩
def m_X13_risingMinutes (p1 : Int) (p2 : Int) (σ : xS) : Option (Int × xS) :=
  xlet (xput σ 184 7 0) fun s1 => (m_X13_isDough p1 s1).bind fun v2 => xj (fun (q6 : Int) => some (q6, s1)) fun J4 => if (zI v2) = 0 then J4 (-1) else xlet (if (zI p2) = 0 then 1 else 3) fun v8 => (m_X13_dough 185 p1 v8 s1).bind fun v9 => (m_X13_slowed 185 v9 s1).bind fun v10 => J4 v10
set_option maxHeartbeats 4000000 in
set_option maxRecDepth 100000 in
theorem wk_X13_risingMinutes {X : xX} {Qf : (Int × xS) → State → Prop} {p1 : Int} {p2 : Int} {σ : xS} (C : xCx X cX13_risingMinutes "BakeryNightModel" (some .int) { frames := 2, cells := 0, slots := 0, locals := 47 } 3) (hQ : ∀ v τ, Qf (v, τ) = xQf X WW (some (iV v), τ))  : WO X Qf WW σ 0 [(0, .ref (xqa (xXE X).2.2 184)), (1, iV p1), (2, iV p2)] [] (m_X13_risingMinutes p1 p2 σ) := by
  unfold m_X13_risingMinutes
  refine x_aload_n C 0 dX13_risingMinutes_0 rfl rfl ?_
  refine x_iconst C (0) dX13_risingMinutes_1 rfl ?_
  refine x_put C 7 0 cls_X13 at_X13 (by decide) wd1509 rfl rfl rfl rfl (xV_pI rfl) dX13_risingMinutes_2 ?_
  refine x_letS (fun s1 => ?_)
  refine x_aload_n C 0 dX13_risingMinutes_5 rfl rfl ?_
  refine x_iload_n C 1 dX13_risingMinutes_6 rfl rfl ?_
  refine x_callV C (ct_X13_isDough _ _ p1 s1) mt_X13_isDough vr_X13_isDough wd1867 cls_X13 at_X13 rfl ⟨rfl, rfl, Nat.le_of_ble_eq_true rfl, Nat.le_of_ble_eq_true rfl⟩ rfl (by decide) dX13_risingMinutes_7 (kI (fun v2 => ?_))
  refine x_join (fun J => ∀ q6 : Int, WO X Qf WW s1 43 [] [iV q6] (J q6)) ?_ ?_
  · intro q6
    exact x_iretQ C (hQ _ _) rfl dX13_risingMinutes_43
  · intro J4 hJ5
    refine x_if_eq C 42 rfl dX13_risingMinutes_10 rfl (fun c7 => x_op c7 ?_) (fun c7 => x_on c7 ?_)
    · refine x_iconst C (-1) dX13_risingMinutes_42 rfl ?_
      refine x_pick [] rfl ?_
      exact hJ5 (-1)
    · refine x_aload_n C 0 dX13_risingMinutes_13 rfl rfl ?_
      refine x_aload_n C 0 dX13_risingMinutes_14 rfl rfl ?_
      refine x_get (v := .ref (xqa (xXE X).2.2 185)) C 0 cls_X13 at_X13 (by decide) wd1502 rfl (xV_r (rt_X13_bakery  _) rfl) dX13_risingMinutes_15 ?_
      refine x_aload_n C 0 dX13_risingMinutes_18 rfl rfl ?_
      refine x_aload_n C 0 dX13_risingMinutes_19 rfl rfl ?_
      refine x_get (v := .ref (xqa (xXE X).2.2 185)) C 0 cls_X13 at_X13 (by decide) wd1502 rfl (xV_r (rt_X13_bakery  _) rfl) dX13_risingMinutes_20 ?_
      refine x_iload_n C 1 dX13_risingMinutes_23 rfl rfl ?_
      refine x_iload_n C 2 dX13_risingMinutes_24 rfl rfl ?_
      refine x_tree 33 [iV p1, .ref (xqa (xXE X).2.2 185), .ref (xqa (xXE X).2.2 184), .ref (xqa (xXE X).2.2 185), .ref (xqa (xXE X).2.2 184)] (fun v8 => ?_) (fun hJ11 => ?_)
      · refine x_callV C (ct_X13_dough _ _ 185 p1 v8 s1 at_X13_bakery) mt_X13_dough vr_X13_dough wd1895 cls_X13 at_X13 rfl ⟨rfl, rfl, Nat.le_of_ble_eq_true rfl, Nat.le_of_ble_eq_true rfl⟩ rfl (Nat.le_of_ble_eq_true rfl) dX13_risingMinutes_33 (kI (fun v9 => ?_))
        refine x_callV C (ct_X13_slowed _ _ 185 v9 s1 at_X13_bakery) mt_X13_slowed vr_X13_slowed wd1907 cls_X13 at_X13 rfl ⟨rfl, rfl, Nat.le_of_ble_eq_true rfl, Nat.le_of_ble_eq_true rfl⟩ rfl (by decide) dX13_risingMinutes_36 (kI (fun v10 => ?_))
        refine x_goto C 43 dX13_risingMinutes_39 rfl ?_
        refine x_pick [] rfl ?_
        exact hJ5 v10
      · refine x_if_eq C 32 rfl dX13_risingMinutes_25 rfl (fun c12 => ?_) (fun c12 => ?_)
        · refine x_iconst C (1) dX13_risingMinutes_32 rfl ?_
          exact hJ11 _ (by rw [if_pos c12])
        · refine x_iconst C (3) dX13_risingMinutes_28 rfl ?_
          refine x_goto C 33 dX13_risingMinutes_29 rfl ?_
          exact hJ11 _ (by rw [if_neg c12])
theorem ct_X13_risingMinutes (l : Launch) (E : xE) (p1 : Int) (p2 : Int) (σ : xS)   : xMet l E yX13_risingMinutes cX13_risingMinutes 3 (some .int) { frames := 2, cells := 0, slots := 0, locals := 47 } [.ref (xqa E.2.2 184), iV p1, iV p2] WW WW σ (xrS (m_X13_risingMinutes p1 p2 σ)) := by
  refine xMet.of0 (by decide) (Nat.le_of_ble_eq_true rfl) rfl rfl (fun X hE C => ?_)
  subst hE
  exact xMap (fun q => (some (iV q.1), q.2)) (wk_X13_risingMinutes C (fun _ _ => rfl) )
theorem mt_X13_risingMinutes : xMth yX13_risingMinutes cX13_risingMinutes 3 (some .int) 2 := ⟨wd1906, wd164, ⟨by decide, by decide, rfl⟩⟩
theorem vr_X13_risingMinutes : xVir yX13_risingMinutes := ⟨wd1904, wd1905⟩
def m_X13_stageOf (p1 : Int) (p2 : Int) (σ : xS) : Option Int :=
  xck (zI ((6 * p1) + p2)) 360 <| some (σ 195 (zI ((6 * p1) + p2)).toNat)
set_option maxHeartbeats 4000000 in
set_option maxRecDepth 100000 in
theorem wk_X13_stageOf {X : xX} {Qf : Int → State → Prop} {p1 : Int} {p2 : Int} {σ : xS} (C : xCx X cX13_stageOf "BakeryNightModel" (some .int) { frames := 0, cells := 0, slots := 0, locals := 0 } 3) (hQ : ∀ v, Qf v = xQf X WW (some (iV v), σ))  : WO X Qf WW σ 0 [(0, .ref (xqa (xXE X).2.2 184)), (1, iV p1), (2, iV p2)] [] (m_X13_stageOf p1 p2 σ) := by
  unfold m_X13_stageOf
  refine x_aload_n C 0 dX13_stageOf_0 rfl rfl ?_
  refine x_get (v := .ref (xqa (xXE X).2.2 195)) C 22 cls_X13 at_X13 (by decide) wd1524 rfl (xV_r (rt_X13_stage  _) rfl) dX13_stageOf_1 ?_
  refine x_bipush C (6) dX13_stageOf_4 rfl ?_
  refine x_iload_n C 1 dX13_stageOf_6 rfl rfl ?_
  refine x_imul C dX13_stageOf_7 ?_
  refine x_iload_n C 2 dX13_stageOf_8 rfl rfl ?_
  refine x_iadd C dX13_stageOf_9 ?_
  refine x_iald C at_X13_stage rfl dX13_stageOf_10 (fun _ => ?_)
  exact x_iretQ C (hQ _) rfl dX13_stageOf_11
theorem ct_X13_stageOf (l : Launch) (E : xE) (p1 : Int) (p2 : Int) (σ : xS)   : xMet l E yX13_stageOf cX13_stageOf 3 (some .int) { frames := 0, cells := 0, slots := 0, locals := 0 } [.ref (xqa E.2.2 184), iV p1, iV p2] WW WW σ (xrI (m_X13_stageOf p1 p2 σ) σ) := by
  refine xMet.of0 (by decide) (Nat.le_of_ble_eq_true rfl) rfl rfl (fun X hE C => ?_)
  subst hE
  exact xMap (fun v => (some (iV v), σ)) (wk_X13_stageOf C (fun _ => rfl) )
theorem mt_X13_stageOf : xMth yX13_stageOf cX13_stageOf 3 (some .int) 2 := ⟨wd2021, wd164, ⟨by decide, by decide, rfl⟩⟩
theorem vr_X13_stageOf : xVir yX13_stageOf := ⟨wd2020, wd116⟩
def m_X13_reaches (p1 : Int) (p2 : Int) (σ : xS) : Option xS :=
  xck (zI ((6 * p1) + p2)) 360 <| xlet (xput σ 195 (zI ((6 * p1) + p2)).toNat (σ 184 34)) fun s1 => some s1
set_option maxHeartbeats 4000000 in
set_option maxRecDepth 100000 in
theorem wk_X13_reaches {X : xX} {Qf : xS → State → Prop} {p1 : Int} {p2 : Int} {σ : xS} (C : xCx X cX13_reaches "BakeryNightModel" none { frames := 0, cells := 0, slots := 0, locals := 0 } 3) (hQ : ∀ τ, Qf τ = xQf X WW (none, τ))  : WO X Qf WW σ 0 [(0, .ref (xqa (xXE X).2.2 184)), (1, iV p1), (2, iV p2)] [] (m_X13_reaches p1 p2 σ) := by
  unfold m_X13_reaches
  refine x_aload_n C 0 dX13_reaches_0 rfl rfl ?_
  refine x_get (v := .ref (xqa (xXE X).2.2 195)) C 22 cls_X13 at_X13 (by decide) wd1524 rfl (xV_r (rt_X13_stage  _) rfl) dX13_reaches_1 ?_
  refine x_bipush C (6) dX13_reaches_4 rfl ?_
  refine x_iload_n C 1 dX13_reaches_6 rfl rfl ?_
  refine x_imul C dX13_reaches_7 ?_
  refine x_iload_n C 2 dX13_reaches_8 rfl rfl ?_
  refine x_iadd C dX13_reaches_9 ?_
  refine x_aload_n C 0 dX13_reaches_10 rfl rfl ?_
  refine x_get (v := iV (σ 184 34)) C 34 cls_X13 at_X13 (by decide) wd1536 rfl rfl dX13_reaches_11 ?_
  refine x_iast C at_X13_stage rfl dX13_reaches_14 (fun _ => ?_)
  refine x_letS (fun s1 => ?_)
  exact x_vretQ C (hQ _) rfl dX13_reaches_15
theorem ct_X13_reaches (l : Launch) (E : xE) (p1 : Int) (p2 : Int) (σ : xS)   : xMet l E yX13_reaches cX13_reaches 3 none { frames := 0, cells := 0, slots := 0, locals := 0 } [.ref (xqa E.2.2 184), iV p1, iV p2] WW WW σ (xrV (m_X13_reaches p1 p2 σ)) := by
  refine xMet.of0 (by decide) (Nat.le_of_ble_eq_true rfl) rfl rfl (fun X hE C => ?_)
  subst hE
  exact xMap (fun q => (none, q)) (wk_X13_reaches C (fun _ => rfl) )
theorem mt_X13_reaches : xMth yX13_reaches cX13_reaches 3 none 2 := ⟨wd1956, wd164, ⟨by decide, by decide, rfl⟩⟩
theorem vr_X13_reaches : xVir yX13_reaches := ⟨wd1955, wd102⟩
def m_X13_clears (n : Nat) (k1 : Nat) (σ : xS) : Option xS :=
  (m_X13_findsBatches n k1 σ).bind fun s1 => loopF (fun rec3 (t2 : Int × xS) => if (zI (t2.2 184 19)) ≤ (zI t2.1) then loopF (fun rec7 (t6 : Int × xS) => if 4 ≤ (zI t6.1) then xlet (xput t6.2 184 27 0) fun s10 => xlet (xput s10 184 29 0) fun s11 => xlet (xput s11 184 35 0) fun s12 => xlet (xput s12 184 36 0) fun s13 => xlet (xput s13 184 37 0) fun s14 => xlet (xput s14 184 38 0) fun s15 => some s15 else (m_X13_oven k1 t6.1 1 t6.2).bind fun v16 => xck (zI t6.1) 4 <| xlet (xput t6.2 201 (zI t6.1).toNat v16) fun s17 => xck (zI t6.1) 4 <| xlet (xput s17 202 (zI t6.1).toNat (-1)) fun s18 => xck (zI t6.1) 4 <| xlet (xput s18 204 (zI t6.1).toNat 0) fun s19 => xlet (t6.1 + 1) fun v20 => rec7 (v20, s19)) n (0, t2.2) else xck (zI t2.1) 60 <| xlet (xput t2.2 193 (zI t2.1).toNat 0) fun s21 => xck (zI t2.1) 60 <| xlet (xput s21 196 (zI t2.1).toNat (-1)) fun s22 => loopF (fun rec24 (t23 : Int × xS) => if 6 ≤ (zI t23.1) then xlet (t2.1 + 1) fun v27 => rec3 (v27, t23.2) else xck (zI ((6 * t2.1) + t23.1)) 360 <| xlet (xput t23.2 195 (zI ((6 * t2.1) + t23.1)).toNat (-1)) fun s28 => xlet (t23.1 + 1) fun v29 => rec24 (v29, s28)) n (0, s22)) n (0, s1)
set_option maxHeartbeats 4000000 in
set_option maxRecDepth 100000 in
theorem wk_X13_clears {X : xX} {Qf : xS → State → Prop} {n : Nat} {k1 : Nat} {σ : xS} (C : xCx X cX13_clears "BakeryNightModel" none { frames := 5, cells := 0, slots := 0, locals := 116 } 4) (hQ : ∀ τ, Qf τ = xQf X WW (none, τ)) (hk1 : xAt WW k1 0 289) : WO X Qf WW σ 0 [(0, .ref (xqa (xXE X).2.2 184)), (1, .ref (xqa (xXE X).2.2 k1))] [] (m_X13_clears n k1 σ) := by
  unfold m_X13_clears
  refine x_aload_n C 0 dX13_clears_0 rfl rfl ?_
  refine x_aload_n C 1 dX13_clears_1 rfl rfl ?_
  refine x_callV C (ct_X13_findsBatches _ _ n k1 σ hk1) mt_X13_findsBatches vr_X13_findsBatches wd1924 cls_X13 at_X13 rfl ⟨rfl, rfl, Nat.le_of_ble_eq_true rfl, Nat.le_of_ble_eq_true rfl⟩ rfl (by decide) dX13_clears_2 (kV (fun s1 => ?_))
  refine x_iconst C (0) dX13_clears_5 rfl ?_
  refine x_istore_n (L' := [(2, _), (0, _), (1, _)]) C dX13_clears_6 rfl (by decide) rfl ?_
  refine x_pick [1, 2, 0] rfl ?_
  refine x_loop (fun t2 : Int × xS => t2.2) (fun t2 : Int × xS => [(0, .ref (xqa (xXE X).2.2 184)), (1, .ref (xqa (xXE X).2.2 k1)), (2, iV t2.1)]) (fun rec3 hr4 t2 => ?_) n (0, s1)
  refine x_iload_n C 2 dX13_clears_7 rfl rfl ?_
  refine x_aload_n C 0 dX13_clears_8 rfl rfl ?_
  refine x_get (v := iV (t2.2 184 19)) C 19 cls_X13 at_X13 (by decide) wd1521 rfl rfl dX13_clears_9 ?_
  refine x_icmp_ge C 61 rfl rfl dX13_clears_12 rfl (fun c5 => x_op c5 ?_) (fun c5 => x_on c5 ?_)
  · refine x_iconst C (0) dX13_clears_61 rfl ?_
    refine x_istore_n (L' := [(2, _), (0, _), (1, _)]) C dX13_clears_62 rfl (by decide) rfl ?_
    refine x_pick [1, 2, 0] rfl ?_
    refine x_loop (fun t6 : Int × xS => t6.2) (fun t6 : Int × xS => [(0, .ref (xqa (xXE X).2.2 184)), (1, .ref (xqa (xXE X).2.2 k1)), (2, iV t6.1)]) (fun rec7 hr8 t6 => ?_) n (0, t2.2)
    refine x_iload_n C 2 dX13_clears_63 rfl rfl ?_
    refine x_iconst C (4) dX13_clears_64 rfl ?_
    refine x_icmp_ge C 101 rfl (zIl _ rfl) dX13_clears_65 rfl (fun c9 => x_op c9 ?_) (fun c9 => x_on c9 ?_)
    · refine x_aload_n C 0 dX13_clears_101 rfl rfl ?_
      refine x_iconst C (0) dX13_clears_102 rfl ?_
      refine x_put C 27 0 cls_X13 at_X13 (by decide) wd1529 rfl rfl rfl rfl (xV_pI rfl) dX13_clears_103 ?_
      refine x_letS (fun s10 => ?_)
      refine x_aload_n C 0 dX13_clears_106 rfl rfl ?_
      refine x_iconst C (0) dX13_clears_107 rfl ?_
      refine x_put C 29 0 cls_X13 at_X13 (by decide) wd1531 rfl rfl rfl rfl (xV_pI rfl) dX13_clears_108 ?_
      refine x_letS (fun s11 => ?_)
      refine x_aload_n C 0 dX13_clears_111 rfl rfl ?_
      refine x_iconst C (0) dX13_clears_112 rfl ?_
      refine x_put C 35 0 cls_X13 at_X13 (by decide) wd1537 rfl rfl rfl rfl (xV_pI rfl) dX13_clears_113 ?_
      refine x_letS (fun s12 => ?_)
      refine x_aload_n C 0 dX13_clears_116 rfl rfl ?_
      refine x_iconst C (0) dX13_clears_117 rfl ?_
      refine x_put C 36 0 cls_X13 at_X13 (by decide) wd1538 rfl rfl rfl rfl (xV_pI rfl) dX13_clears_118 ?_
      refine x_letS (fun s13 => ?_)
      refine x_aload_n C 0 dX13_clears_121 rfl rfl ?_
      refine x_iconst C (0) dX13_clears_122 rfl ?_
      refine x_put C 37 0 cls_X13 at_X13 (by decide) wd1539 rfl rfl rfl rfl (xV_pI rfl) dX13_clears_123 ?_
      refine x_letS (fun s14 => ?_)
      refine x_aload_n C 0 dX13_clears_126 rfl rfl ?_
      refine x_iconst C (0) dX13_clears_127 rfl ?_
      refine x_put C 38 0 cls_X13 at_X13 (by decide) wd1540 rfl rfl rfl rfl (xV_pI rfl) dX13_clears_128 ?_
      refine x_letS (fun s15 => ?_)
      exact x_vretQ C (hQ _) rfl dX13_clears_131
    · refine x_aload_n C 0 dX13_clears_68 rfl rfl ?_
      refine x_get (v := .ref (xqa (xXE X).2.2 201)) C 30 cls_X13 at_X13 (by decide) wd1532 rfl (xV_r (rt_X13_heat  _) rfl) dX13_clears_69 ?_
      refine x_iload_n C 2 dX13_clears_72 rfl rfl ?_
      refine x_aload_n C 0 dX13_clears_73 rfl rfl ?_
      refine x_aload_n C 1 dX13_clears_74 rfl rfl ?_
      refine x_iload_n C 2 dX13_clears_75 rfl rfl ?_
      refine x_iconst C (1) dX13_clears_76 rfl ?_
      refine x_callV C (ct_X13_oven _ _ k1 t6.1 1 t6.2 hk1) mt_X13_oven vr_X13_oven wd1937 cls_X13 at_X13 rfl ⟨rfl, rfl, Nat.le_of_ble_eq_true rfl, Nat.le_of_ble_eq_true rfl⟩ rfl (Nat.le_of_ble_eq_true rfl) dX13_clears_77 (kI (fun v16 => ?_))
      refine x_iast C at_X13_heat rfl dX13_clears_80 (fun _ => ?_)
      refine x_letS (fun s17 => ?_)
      refine x_aload_n C 0 dX13_clears_81 rfl rfl ?_
      refine x_get (v := .ref (xqa (xXE X).2.2 202)) C 31 cls_X13 at_X13 (by decide) wd1533 rfl (xV_r (rt_X13_toHeat  _) rfl) dX13_clears_82 ?_
      refine x_iload_n C 2 dX13_clears_85 rfl rfl ?_
      refine x_iconst C (-1) dX13_clears_86 rfl ?_
      refine x_iast C at_X13_toHeat rfl dX13_clears_87 (fun _ => ?_)
      refine x_letS (fun s18 => ?_)
      refine x_aload_n C 0 dX13_clears_88 rfl rfl ?_
      refine x_get (v := .ref (xqa (xXE X).2.2 204)) C 33 cls_X13 at_X13 (by decide) wd1535 rfl (xV_r (rt_X13_changes  _) rfl) dX13_clears_89 ?_
      refine x_iload_n C 2 dX13_clears_92 rfl rfl ?_
      refine x_iconst C (0) dX13_clears_93 rfl ?_
      refine x_iast C at_X13_changes rfl dX13_clears_94 (fun _ => ?_)
      refine x_letS (fun s19 => ?_)
      refine x_inc C 2 (f := _) dX13_clears_95 rfl (by decide) (1) rfl (fun v20 => ?_)
      refine x_reL (L' := [(2, _), (0, _), (1, _)]) rfl ?_
      refine x_goto C 63 dX13_clears_98 rfl ?_
      refine x_pick [1, 2, 0] rfl ?_
      exact hr8 (v20, s19)
  · refine x_aload_n C 0 dX13_clears_15 rfl rfl ?_
    refine x_get (v := .ref (xqa (xXE X).2.2 193)) C 20 cls_X13 at_X13 (by decide) wd1522 rfl (xV_r (rt_X13_state  _) rfl) dX13_clears_16 ?_
    refine x_iload_n C 2 dX13_clears_19 rfl rfl ?_
    refine x_iconst C (0) dX13_clears_20 rfl ?_
    refine x_iast C at_X13_state rfl dX13_clears_21 (fun _ => ?_)
    refine x_letS (fun s21 => ?_)
    refine x_aload_n C 0 dX13_clears_22 rfl rfl ?_
    refine x_get (v := .ref (xqa (xXE X).2.2 196)) C 23 cls_X13 at_X13 (by decide) wd1525 rfl (xV_r (rt_X13_inOven  _) rfl) dX13_clears_23 ?_
    refine x_iload_n C 2 dX13_clears_26 rfl rfl ?_
    refine x_iconst C (-1) dX13_clears_27 rfl ?_
    refine x_iast C at_X13_inOven rfl dX13_clears_28 (fun _ => ?_)
    refine x_letS (fun s22 => ?_)
    refine x_iconst C (0) dX13_clears_29 rfl ?_
    refine x_istore_n (L' := [(3, _), (0, _), (1, _), (2, _)]) C dX13_clears_30 rfl (by decide) rfl ?_
    refine x_pick [1, 2, 3, 0] rfl ?_
    refine x_loop (fun t23 : Int × xS => t23.2) (fun t23 : Int × xS => [(0, .ref (xqa (xXE X).2.2 184)), (1, .ref (xqa (xXE X).2.2 k1)), (2, iV t2.1), (3, iV t23.1)]) (fun rec24 hr25 t23 => ?_) n (0, s22)
    refine x_iload_n C 3 dX13_clears_31 rfl rfl ?_
    refine x_bipush C (6) dX13_clears_32 rfl ?_
    refine x_icmp_ge C 55 rfl (zIl _ rfl) dX13_clears_34 rfl (fun c26 => x_op c26 ?_) (fun c26 => x_on c26 ?_)
    · refine x_inc C 2 (f := _) dX13_clears_55 rfl (by decide) (1) rfl (fun v27 => ?_)
      refine x_reL (L' := [(2, _), (0, _), (1, _), (3, _)]) rfl ?_
      refine x_goto C 7 dX13_clears_58 rfl ?_
      refine x_pick [1, 2, 0] rfl ?_
      exact hr4 (v27, t23.2)
    · refine x_aload_n C 0 dX13_clears_37 rfl rfl ?_
      refine x_get (v := .ref (xqa (xXE X).2.2 195)) C 22 cls_X13 at_X13 (by decide) wd1524 rfl (xV_r (rt_X13_stage  _) rfl) dX13_clears_38 ?_
      refine x_bipush C (6) dX13_clears_41 rfl ?_
      refine x_iload_n C 2 dX13_clears_43 rfl rfl ?_
      refine x_imul C dX13_clears_44 ?_
      refine x_iload_n C 3 dX13_clears_45 rfl rfl ?_
      refine x_iadd C dX13_clears_46 ?_
      refine x_iconst C (-1) dX13_clears_47 rfl ?_
      refine x_iast C at_X13_stage rfl dX13_clears_48 (fun _ => ?_)
      refine x_letS (fun s28 => ?_)
      refine x_inc C 3 (f := _) dX13_clears_49 rfl (by decide) (1) rfl (fun v29 => ?_)
      refine x_reL (L' := [(3, _), (0, _), (1, _), (2, _)]) rfl ?_
      refine x_goto C 31 dX13_clears_52 rfl ?_
      refine x_pick [1, 2, 3, 0] rfl ?_
      exact hr25 (v29, s28)
theorem ct_X13_clears (l : Launch) (E : xE) (n : Nat) (k1 : Nat) (σ : xS) (hk1 : xAt WW k1 0 289)  : xMet l E yX13_clears cX13_clears 4 none { frames := 5, cells := 0, slots := 0, locals := 116 } [.ref (xqa E.2.2 184), .ref (xqa E.2.2 k1)] WW WW σ (xrV (m_X13_clears n k1 σ)) := by
  refine xMet.of0 (by decide) (Nat.le_of_ble_eq_true rfl) rfl rfl (fun X hE C => ?_)
  subst hE
  exact xMap (fun q => (none, q)) (wk_X13_clears C (fun _ => rfl) hk1)
theorem mt_X13_clears : xMth yX13_clears cX13_clears 4 none 1 := ⟨wd1923, wd164, ⟨by decide, by decide, rfl⟩⟩
theorem vr_X13_clears : xVir yX13_clears := ⟨wd1922, wd94⟩
def m_X13_stateMany (n : Nat) (p1 : Int) (σ : xS) : Option Int :=
  loopF (fun rec2 (t1 : Int × Int) => if (zI (σ 184 19)) ≤ (zI t1.2) then some t1.1 else xck (zI t1.2) 60 <| xlet (if (zI (σ 193 (zI t1.2).toNat)) = (zI p1) then 1 else 0) fun v5 => xlet (t1.1 + v5) fun v6 => xlet (t1.2 + 1) fun v7 => rec2 (v6, v7)) n (0, 0)
set_option maxHeartbeats 4000000 in
set_option maxRecDepth 100000 in
theorem wk_X13_stateMany {X : xX} {Qf : Int → State → Prop} {n : Nat} {p1 : Int} {σ : xS} (C : xCx X cX13_stateMany "BakeryNightModel" (some .int) { frames := 0, cells := 0, slots := 0, locals := 0 } 4) (hQ : ∀ v, Qf v = xQf X WW (some (iV v), σ))  : WO X Qf WW σ 0 [(0, .ref (xqa (xXE X).2.2 184)), (1, iV p1)] [] (m_X13_stateMany n p1 σ) := by
  unfold m_X13_stateMany
  refine x_iconst C (0) dX13_stateMany_0 rfl ?_
  refine x_istore_n (L' := [(2, _), (0, _), (1, _)]) C dX13_stateMany_1 rfl (by decide) rfl ?_
  refine x_iconst C (0) dX13_stateMany_2 rfl ?_
  refine x_istore_n (L' := [(3, _), (2, _), (0, _), (1, _)]) C dX13_stateMany_3 rfl (by decide) rfl ?_
  refine x_pick [2, 3, 1, 0] rfl ?_
  refine x_loop (fun t1 : Int × Int => σ) (fun t1 : Int × Int => [(0, .ref (xqa (xXE X).2.2 184)), (1, iV p1), (2, iV t1.1), (3, iV t1.2)]) (fun rec2 hr3 t1 => ?_) n (0, 0)
  refine x_iload_n C 3 dX13_stateMany_4 rfl rfl ?_
  refine x_aload_n C 0 dX13_stateMany_5 rfl rfl ?_
  refine x_get (v := iV (σ 184 19)) C 19 cls_X13 at_X13 (by decide) wd1521 rfl rfl dX13_stateMany_6 ?_
  refine x_icmp_ge C 36 rfl rfl dX13_stateMany_9 rfl (fun c4 => x_op c4 ?_) (fun c4 => x_on c4 ?_)
  · refine x_iload_n C 2 dX13_stateMany_36 rfl rfl ?_
    exact x_iretQ C (hQ _) rfl dX13_stateMany_37
  · refine x_iload_n C 2 dX13_stateMany_12 rfl rfl ?_
    refine x_aload_n C 0 dX13_stateMany_13 rfl rfl ?_
    refine x_get (v := .ref (xqa (xXE X).2.2 193)) C 20 cls_X13 at_X13 (by decide) wd1522 rfl (xV_r (rt_X13_state  _) rfl) dX13_stateMany_14 ?_
    refine x_iload_n C 3 dX13_stateMany_17 rfl rfl ?_
    refine x_iald C at_X13_state rfl dX13_stateMany_18 (fun _ => ?_)
    refine x_iload_n C 1 dX13_stateMany_19 rfl rfl ?_
    refine x_tree 28 [iV t1.1] (fun v5 => ?_) (fun hJ8 => ?_)
    · refine x_iadd C dX13_stateMany_28 ?_
      refine x_letI (fun v6 => ?_)
      refine x_istore_n (L' := [(2, _), (0, _), (1, _), (3, _)]) C dX13_stateMany_29 rfl (by decide) rfl ?_
      refine x_inc C 3 (f := _) dX13_stateMany_30 rfl (by decide) (1) rfl (fun v7 => ?_)
      refine x_reL (L' := [(3, _), (2, _), (0, _), (1, _)]) rfl ?_
      refine x_goto C 4 dX13_stateMany_33 rfl ?_
      refine x_pick [2, 3, 1, 0] rfl ?_
      exact hr3 (v6, v7)
    · refine x_icmp_ne C 27 rfl rfl dX13_stateMany_20 rfl (fun c9 => ?_) (fun c9 => ?_)
      · refine x_iconst C (0) dX13_stateMany_27 rfl ?_
        exact hJ8 _ (by rw [if_neg c9])
      · refine x_iconst C (1) dX13_stateMany_23 rfl ?_
        refine x_goto C 28 dX13_stateMany_24 rfl ?_
        exact hJ8 _ (by rw [if_pos c9])
theorem ct_X13_stateMany (l : Launch) (E : xE) (n : Nat) (p1 : Int) (σ : xS)   : xMet l E yX13_stateMany cX13_stateMany 4 (some .int) { frames := 0, cells := 0, slots := 0, locals := 0 } [.ref (xqa E.2.2 184), iV p1] WW WW σ (xrI (m_X13_stateMany n p1 σ) σ) := by
  refine xMet.of0 (by decide) (Nat.le_of_ble_eq_true rfl) rfl rfl (fun X hE C => ?_)
  subst hE
  exact xMap (fun v => (some (iV v), σ)) (wk_X13_stateMany C (fun _ => rfl) )
theorem mt_X13_stateMany : xMth yX13_stateMany cX13_stateMany 4 (some .int) 1 := ⟨wd1944, wd164, ⟨by decide, by decide, rfl⟩⟩
theorem vr_X13_stateMany : xVir yX13_stateMany := ⟨wd1943, wd99⟩
def m_X13_goesOn (k1 : Nat) (p2 : Int) (σ : xS) : Option xS :=
  xck (zI p2) 60 <| xlet (σ 192 (zI p2).toNat) fun v1 => xck (zI p2) 60 <| xj (fun (q4 : xS) => xck (zI p2) 60 <| xj (fun (q7 : xS) => xck (zI p2) 60 <| xj (fun (q10 : xS) => xck (zI p2) 60 <| xj (fun (q13 : xS) => xck (zI p2) 60 <| xj (fun (q16 : xS) => some q16) fun J14 => if (zI (q13 193 (zI p2).toNat)) = 7 then xck (zI p2) 60 <| if (zI (q13 194 (zI p2).toNat)) = (zI (q13 184 34)) then (m_X13_reaches p2 5 q13).bind fun s19 => xck (zI p2) 60 <| xlet (xput s19 193 (zI p2).toNat 8) fun s20 => xlet (xput s20 184 35 (s20 184 34)) fun s21 => J14 s21 else J14 q13 else J14 q13) fun J11 => if (zI (q10 193 (zI p2).toNat)) = 5 then xck (zI p2) 60 <| if (zI (q10 194 (zI p2).toNat)) = (zI (q10 184 34)) then xck (zI p2) 60 <| xlet (xput q10 193 (zI p2).toNat 6) fun s24 => xck (zI p2) 60 <| xlet (xput s24 197 (zI p2).toNat (s24 184 34)) fun s25 => xck (zI (s25 184 29)) 60 <| xlet (xput s25 200 (zI (s25 184 29)).toNat p2) fun s26 => xlet (xput s26 184 29 ((s26 184 29) + 1)) fun s27 => J11 s27 else J11 q10 else J11 q10) fun J8 => if (zI (q7 193 (zI p2).toNat)) = 4 then xck (zI p2) 60 <| if (zI (q7 194 (zI p2).toNat)) = (zI (q7 184 34)) then (m_X13_reaches p2 3 q7).bind fun s30 => xck (zI p2) 60 <| xlet (xput s30 193 (zI p2).toNat 5) fun s31 => (m_X13_dough k1 v1 3 s31).bind fun v32 => (m_X13_slowed k1 v32 s31).bind fun v33 => xck (zI p2) 60 <| xlet (xput s31 194 (zI p2).toNat ((s31 184 34) + v33)) fun s34 => J8 s34 else J8 q7 else J8 q7) fun J5 => if (zI (q4 193 (zI p2).toNat)) = 2 then xck (zI p2) 60 <| if (zI (q4 194 (zI p2).toNat)) = (zI (q4 184 34)) then xck (zI p2) 60 <| xlet (xput q4 193 (zI p2).toNat 3) fun s37 => xck (zI p2) 60 <| xlet (xput s37 198 (zI p2).toNat (s37 184 34)) fun s38 => xck (zI (s38 184 27)) 60 <| xlet (xput s38 199 (zI (s38 184 27)).toNat p2) fun s39 => xlet (xput s39 184 27 ((s39 184 27) + 1)) fun s40 => J5 s40 else J5 q4 else J5 q4) fun J2 => if (zI (σ 193 (zI p2).toNat)) = 1 then xck (zI p2) 60 <| if (zI (σ 194 (zI p2).toNat)) = (zI (σ 184 34)) then (m_X13_reaches p2 1 σ).bind fun s43 => xck (zI p2) 60 <| xlet (xput s43 193 (zI p2).toNat 2) fun s44 => (m_X13_dough k1 v1 1 s44).bind fun v45 => (m_X13_slowed k1 v45 s44).bind fun v46 => xck (zI p2) 60 <| xlet (xput s44 194 (zI p2).toNat ((s44 184 34) + v46)) fun s47 => J2 s47 else J2 σ else J2 σ
set_option maxHeartbeats 4000000 in
set_option maxRecDepth 100000 in
theorem wk_X13_goesOn {X : xX} {Qf : xS → State → Prop} {k1 : Nat} {p2 : Int} {σ : xS} (C : xCx X cX13_goesOn "BakeryNightModel" none { frames := 2, cells := 0, slots := 0, locals := 44 } 4) (hQ : ∀ τ, Qf τ = xQf X WW (none, τ)) (hk1 : xAt WW k1 0 289) : WO X Qf WW σ 0 [(0, .ref (xqa (xXE X).2.2 184)), (1, .ref (xqa (xXE X).2.2 k1)), (2, iV p2)] [] (m_X13_goesOn k1 p2 σ) := by
  unfold m_X13_goesOn
  refine x_aload_n C 0 dX13_goesOn_0 rfl rfl ?_
  refine x_get (v := .ref (xqa (xXE X).2.2 192)) C 18 cls_X13 at_X13 (by decide) wd1520 rfl (xV_r (rt_X13_batchDough  _) rfl) dX13_goesOn_1 ?_
  refine x_iload_n C 2 dX13_goesOn_4 rfl rfl ?_
  refine x_iald C at_X13_batchDough rfl dX13_goesOn_5 (fun _ => ?_)
  refine x_letI (fun v1 => ?_)
  refine x_istore_n (L' := [(3, _), (0, _), (1, _), (2, _)]) C dX13_goesOn_6 rfl (by decide) rfl ?_
  refine x_aload_n C 1 dX13_goesOn_7 rfl rfl ?_
  refine x_get (v := .ref (xqa (xXE X).2.2 193)) C 20 cls_X13 at_X13 (by decide) wd1522 rfl (xV_r (rt_X13_state  _) rfl) dX13_goesOn_8 ?_
  refine x_iload_n C 3 dX13_goesOn_11 rfl rfl ?_
  refine x_iald C at_X13_state rfl dX13_goesOn_12 (fun _ => ?_)
  refine x_iconst C (1) dX13_goesOn_13 rfl ?_
  refine x_join (fun J => ∀ q4 : xS, WO X Qf WW q4 66 [(0, .ref (xqa (xXE X).2.2 184)), (1, .ref (xqa (xXE X).2.2 k1)), (2, iV p2), (3, iV v1)] [] (J q4)) ?_ ?_
  · intro q4
    refine x_aload_n C 0 dX13_goesOn_66 rfl rfl ?_
    refine x_get (v := .ref (xqa (xXE X).2.2 193)) C 20 cls_X13 at_X13 (by decide) wd1522 rfl (xV_r (rt_X13_state  _) rfl) dX13_goesOn_67 ?_
    refine x_iload_n C 2 dX13_goesOn_70 rfl rfl ?_
    refine x_iald C at_X13_state rfl dX13_goesOn_71 (fun _ => ?_)
    refine x_iconst C (2) dX13_goesOn_72 rfl ?_
    refine x_join (fun J => ∀ q7 : xS, WO X Qf WW q7 126 [(0, .ref (xqa (xXE X).2.2 184)), (1, .ref (xqa (xXE X).2.2 k1)), (2, iV p2), (3, iV v1)] [] (J q7)) ?_ ?_
    · intro q7
      refine x_aload_n C 0 dX13_goesOn_126 rfl rfl ?_
      refine x_get (v := .ref (xqa (xXE X).2.2 193)) C 20 cls_X13 at_X13 (by decide) wd1522 rfl (xV_r (rt_X13_state  _) rfl) dX13_goesOn_127 ?_
      refine x_iload_n C 2 dX13_goesOn_130 rfl rfl ?_
      refine x_iald C at_X13_state rfl dX13_goesOn_131 (fun _ => ?_)
      refine x_iconst C (4) dX13_goesOn_132 rfl ?_
      refine x_join (fun J => ∀ q10 : xS, WO X Qf WW q10 185 [(0, .ref (xqa (xXE X).2.2 184)), (2, iV p2)] [] (J q10)) ?_ ?_
      · intro q10
        refine x_aload_n C 0 dX13_goesOn_185 rfl rfl ?_
        refine x_get (v := .ref (xqa (xXE X).2.2 193)) C 20 cls_X13 at_X13 (by decide) wd1522 rfl (xV_r (rt_X13_state  _) rfl) dX13_goesOn_186 ?_
        refine x_iload_n C 1 dX13_goesOn_189 rfl rfl ?_
        refine x_iald C at_X13_state rfl dX13_goesOn_190 (fun _ => ?_)
        refine x_iconst C (5) dX13_goesOn_191 rfl ?_
        refine x_join (fun J => ∀ q13 : xS, WO X Qf WW q13 246 [(0, .ref (xqa (xXE X).2.2 184)), (2, iV p2)] [] (J q13)) ?_ ?_
        · intro q13
          refine x_aload_n C 0 dX13_goesOn_246 rfl rfl ?_
          refine x_get (v := .ref (xqa (xXE X).2.2 193)) C 20 cls_X13 at_X13 (by decide) wd1522 rfl (xV_r (rt_X13_state  _) rfl) dX13_goesOn_247 ?_
          refine x_iload_n C 1 dX13_goesOn_250 rfl rfl ?_
          refine x_iald C at_X13_state rfl dX13_goesOn_251 (fun _ => ?_)
          refine x_bipush C (7) dX13_goesOn_252 rfl ?_
          refine x_join (fun J => ∀ q16 : xS, WO X Qf WW q16 292 [] [] (J q16)) ?_ ?_
          · intro q16
            exact x_vretQ C (hQ _) rfl dX13_goesOn_292
          · intro J14 hJ15
            refine x_icmp_ne C 292 rfl (zIl _ rfl) dX13_goesOn_254 rfl (fun c17 => x_on c17 ?_) (fun c17 => x_op c17 ?_)
            · refine x_pick [] rfl ?_
              exact hJ15 q13
            · refine x_aload_n C 0 dX13_goesOn_257 rfl rfl ?_
              refine x_get (v := .ref (xqa (xXE X).2.2 194)) C 21 cls_X13 at_X13 (by decide) wd1523 rfl (xV_r (rt_X13_until  _) rfl) dX13_goesOn_258 ?_
              refine x_iload_n C 1 dX13_goesOn_261 rfl rfl ?_
              refine x_iald C at_X13_until rfl dX13_goesOn_262 (fun _ => ?_)
              refine x_aload_n C 0 dX13_goesOn_263 rfl rfl ?_
              refine x_get (v := iV (q13 184 34)) C 34 cls_X13 at_X13 (by decide) wd1536 rfl rfl dX13_goesOn_264 ?_
              refine x_icmp_ne C 292 rfl rfl dX13_goesOn_267 rfl (fun c18 => x_on c18 ?_) (fun c18 => x_op c18 ?_)
              · refine x_pick [] rfl ?_
                exact hJ15 q13
              · refine x_aload_n C 0 dX13_goesOn_270 rfl rfl ?_
                refine x_iload_n C 1 dX13_goesOn_271 rfl rfl ?_
                refine x_iconst C (5) dX13_goesOn_272 rfl ?_
                refine x_callV C (ct_X13_reaches _ _ p2 5 q13) mt_X13_reaches vr_X13_reaches wd1953 cls_X13 at_X13 rfl ⟨rfl, rfl, Nat.le_of_ble_eq_true rfl, Nat.le_of_ble_eq_true rfl⟩ rfl (by decide) dX13_goesOn_273 (kV (fun s19 => ?_))
                refine x_aload_n C 0 dX13_goesOn_276 rfl rfl ?_
                refine x_get (v := .ref (xqa (xXE X).2.2 193)) C 20 cls_X13 at_X13 (by decide) wd1522 rfl (xV_r (rt_X13_state  _) rfl) dX13_goesOn_277 ?_
                refine x_iload_n C 1 dX13_goesOn_280 rfl rfl ?_
                refine x_bipush C (8) dX13_goesOn_281 rfl ?_
                refine x_iast C at_X13_state rfl dX13_goesOn_283 (fun _ => ?_)
                refine x_letS (fun s20 => ?_)
                refine x_aload_n C 0 dX13_goesOn_284 rfl rfl ?_
                refine x_aload_n C 0 dX13_goesOn_285 rfl rfl ?_
                refine x_get (v := iV (s20 184 34)) C 34 cls_X13 at_X13 (by decide) wd1536 rfl rfl dX13_goesOn_286 ?_
                refine x_put C 35 (s20 184 34) cls_X13 at_X13 (by decide) wd1537 rfl rfl rfl rfl (xV_pI rfl) dX13_goesOn_289 ?_
                refine x_letS (fun s21 => ?_)
                refine x_pick [] rfl ?_
                exact hJ15 s21
        · intro J11 hJ12
          refine x_icmp_ne C 246 rfl (zIl _ rfl) dX13_goesOn_192 rfl (fun c22 => x_on c22 ?_) (fun c22 => x_op c22 ?_)
          · refine x_pick [0, 1] rfl ?_
            exact hJ12 q10
          · refine x_aload_n C 0 dX13_goesOn_195 rfl rfl ?_
            refine x_get (v := .ref (xqa (xXE X).2.2 194)) C 21 cls_X13 at_X13 (by decide) wd1523 rfl (xV_r (rt_X13_until  _) rfl) dX13_goesOn_196 ?_
            refine x_iload_n C 1 dX13_goesOn_199 rfl rfl ?_
            refine x_iald C at_X13_until rfl dX13_goesOn_200 (fun _ => ?_)
            refine x_aload_n C 0 dX13_goesOn_201 rfl rfl ?_
            refine x_get (v := iV (q10 184 34)) C 34 cls_X13 at_X13 (by decide) wd1536 rfl rfl dX13_goesOn_202 ?_
            refine x_icmp_ne C 246 rfl rfl dX13_goesOn_205 rfl (fun c23 => x_on c23 ?_) (fun c23 => x_op c23 ?_)
            · refine x_pick [0, 1] rfl ?_
              exact hJ12 q10
            · refine x_aload_n C 0 dX13_goesOn_208 rfl rfl ?_
              refine x_get (v := .ref (xqa (xXE X).2.2 193)) C 20 cls_X13 at_X13 (by decide) wd1522 rfl (xV_r (rt_X13_state  _) rfl) dX13_goesOn_209 ?_
              refine x_iload_n C 1 dX13_goesOn_212 rfl rfl ?_
              refine x_bipush C (6) dX13_goesOn_213 rfl ?_
              refine x_iast C at_X13_state rfl dX13_goesOn_215 (fun _ => ?_)
              refine x_letS (fun s24 => ?_)
              refine x_aload_n C 0 dX13_goesOn_216 rfl rfl ?_
              refine x_get (v := .ref (xqa (xXE X).2.2 197)) C 24 cls_X13 at_X13 (by decide) wd1526 rfl (xV_r (rt_X13_proofedAt  _) rfl) dX13_goesOn_217 ?_
              refine x_iload_n C 1 dX13_goesOn_220 rfl rfl ?_
              refine x_aload_n C 0 dX13_goesOn_221 rfl rfl ?_
              refine x_get (v := iV (s24 184 34)) C 34 cls_X13 at_X13 (by decide) wd1536 rfl rfl dX13_goesOn_222 ?_
              refine x_iast C at_X13_proofedAt rfl dX13_goesOn_225 (fun _ => ?_)
              refine x_letS (fun s25 => ?_)
              refine x_aload_n C 0 dX13_goesOn_226 rfl rfl ?_
              refine x_get (v := .ref (xqa (xXE X).2.2 200)) C 28 cls_X13 at_X13 (by decide) wd1530 rfl (xV_r (rt_X13_proofed  _) rfl) dX13_goesOn_227 ?_
              refine x_aload_n C 0 dX13_goesOn_230 rfl rfl ?_
              refine x_get (v := iV (s25 184 29)) C 29 cls_X13 at_X13 (by decide) wd1531 rfl rfl dX13_goesOn_231 ?_
              refine x_iload_n C 1 dX13_goesOn_234 rfl rfl ?_
              refine x_iast C at_X13_proofed rfl dX13_goesOn_235 (fun _ => ?_)
              refine x_letS (fun s26 => ?_)
              refine x_aload_n C 0 dX13_goesOn_236 rfl rfl ?_
              refine x_aload_n C 0 dX13_goesOn_237 rfl rfl ?_
              refine x_get (v := iV (s26 184 29)) C 29 cls_X13 at_X13 (by decide) wd1531 rfl rfl dX13_goesOn_238 ?_
              refine x_iconst C (1) dX13_goesOn_241 rfl ?_
              refine x_iadd C dX13_goesOn_242 ?_
              refine x_put C 29 ((s26 184 29) + 1) cls_X13 at_X13 (by decide) wd1531 rfl rfl rfl rfl (xV_pI rfl) dX13_goesOn_243 ?_
              refine x_letS (fun s27 => ?_)
              refine x_pick [0, 1] rfl ?_
              exact hJ12 s27
      · intro J8 hJ9
        refine x_icmp_ne C 185 rfl (zIl _ rfl) dX13_goesOn_133 rfl (fun c28 => x_on c28 ?_) (fun c28 => x_op c28 ?_)
        · refine x_pick [0, 2] rfl ?_
          exact hJ9 q7
        · refine x_aload_n C 0 dX13_goesOn_136 rfl rfl ?_
          refine x_get (v := .ref (xqa (xXE X).2.2 194)) C 21 cls_X13 at_X13 (by decide) wd1523 rfl (xV_r (rt_X13_until  _) rfl) dX13_goesOn_137 ?_
          refine x_iload_n C 2 dX13_goesOn_140 rfl rfl ?_
          refine x_iald C at_X13_until rfl dX13_goesOn_141 (fun _ => ?_)
          refine x_aload_n C 0 dX13_goesOn_142 rfl rfl ?_
          refine x_get (v := iV (q7 184 34)) C 34 cls_X13 at_X13 (by decide) wd1536 rfl rfl dX13_goesOn_143 ?_
          refine x_icmp_ne C 185 rfl rfl dX13_goesOn_146 rfl (fun c29 => x_on c29 ?_) (fun c29 => x_op c29 ?_)
          · refine x_pick [0, 2] rfl ?_
            exact hJ9 q7
          · refine x_aload_n C 0 dX13_goesOn_149 rfl rfl ?_
            refine x_iload_n C 2 dX13_goesOn_150 rfl rfl ?_
            refine x_iconst C (3) dX13_goesOn_151 rfl ?_
            refine x_callV C (ct_X13_reaches _ _ p2 3 q7) mt_X13_reaches vr_X13_reaches wd1953 cls_X13 at_X13 rfl ⟨rfl, rfl, Nat.le_of_ble_eq_true rfl, Nat.le_of_ble_eq_true rfl⟩ rfl (by decide) dX13_goesOn_152 (kV (fun s30 => ?_))
            refine x_aload_n C 0 dX13_goesOn_155 rfl rfl ?_
            refine x_get (v := .ref (xqa (xXE X).2.2 193)) C 20 cls_X13 at_X13 (by decide) wd1522 rfl (xV_r (rt_X13_state  _) rfl) dX13_goesOn_156 ?_
            refine x_iload_n C 2 dX13_goesOn_159 rfl rfl ?_
            refine x_iconst C (5) dX13_goesOn_160 rfl ?_
            refine x_iast C at_X13_state rfl dX13_goesOn_161 (fun _ => ?_)
            refine x_letS (fun s31 => ?_)
            refine x_aload_n C 0 dX13_goesOn_162 rfl rfl ?_
            refine x_get (v := .ref (xqa (xXE X).2.2 194)) C 21 cls_X13 at_X13 (by decide) wd1523 rfl (xV_r (rt_X13_until  _) rfl) dX13_goesOn_163 ?_
            refine x_iload_n C 2 dX13_goesOn_166 rfl rfl ?_
            refine x_aload_n C 0 dX13_goesOn_167 rfl rfl ?_
            refine x_get (v := iV (s31 184 34)) C 34 cls_X13 at_X13 (by decide) wd1536 rfl rfl dX13_goesOn_168 ?_
            refine x_aload_n C 0 dX13_goesOn_171 rfl rfl ?_
            refine x_aload_n C 1 dX13_goesOn_172 rfl rfl ?_
            refine x_aload_n C 0 dX13_goesOn_173 rfl rfl ?_
            refine x_aload_n C 1 dX13_goesOn_174 rfl rfl ?_
            refine x_iload_n C 3 dX13_goesOn_175 rfl rfl ?_
            refine x_iconst C (3) dX13_goesOn_176 rfl ?_
            refine x_callV C (ct_X13_dough _ _ k1 v1 3 s31 hk1) mt_X13_dough vr_X13_dough wd1895 cls_X13 at_X13 rfl ⟨rfl, rfl, Nat.le_of_ble_eq_true rfl, Nat.le_of_ble_eq_true rfl⟩ rfl (Nat.le_of_ble_eq_true rfl) dX13_goesOn_177 (kI (fun v32 => ?_))
            refine x_callV C (ct_X13_slowed _ _ k1 v32 s31 hk1) mt_X13_slowed vr_X13_slowed wd1907 cls_X13 at_X13 rfl ⟨rfl, rfl, Nat.le_of_ble_eq_true rfl, Nat.le_of_ble_eq_true rfl⟩ rfl (Nat.le_of_ble_eq_true rfl) dX13_goesOn_180 (kI (fun v33 => ?_))
            refine x_iadd C dX13_goesOn_183 ?_
            refine x_iast C at_X13_until rfl dX13_goesOn_184 (fun _ => ?_)
            refine x_letS (fun s34 => ?_)
            refine x_pick [0, 2] rfl ?_
            exact hJ9 s34
    · intro J5 hJ6
      refine x_icmp_ne C 126 rfl (zIl _ rfl) dX13_goesOn_73 rfl (fun c35 => x_on c35 ?_) (fun c35 => x_op c35 ?_)
      · refine x_pick [0, 1, 2, 3] rfl ?_
        exact hJ6 q4
      · refine x_aload_n C 0 dX13_goesOn_76 rfl rfl ?_
        refine x_get (v := .ref (xqa (xXE X).2.2 194)) C 21 cls_X13 at_X13 (by decide) wd1523 rfl (xV_r (rt_X13_until  _) rfl) dX13_goesOn_77 ?_
        refine x_iload_n C 2 dX13_goesOn_80 rfl rfl ?_
        refine x_iald C at_X13_until rfl dX13_goesOn_81 (fun _ => ?_)
        refine x_aload_n C 0 dX13_goesOn_82 rfl rfl ?_
        refine x_get (v := iV (q4 184 34)) C 34 cls_X13 at_X13 (by decide) wd1536 rfl rfl dX13_goesOn_83 ?_
        refine x_icmp_ne C 126 rfl rfl dX13_goesOn_86 rfl (fun c36 => x_on c36 ?_) (fun c36 => x_op c36 ?_)
        · refine x_pick [0, 1, 2, 3] rfl ?_
          exact hJ6 q4
        · refine x_aload_n C 0 dX13_goesOn_89 rfl rfl ?_
          refine x_get (v := .ref (xqa (xXE X).2.2 193)) C 20 cls_X13 at_X13 (by decide) wd1522 rfl (xV_r (rt_X13_state  _) rfl) dX13_goesOn_90 ?_
          refine x_iload_n C 2 dX13_goesOn_93 rfl rfl ?_
          refine x_iconst C (3) dX13_goesOn_94 rfl ?_
          refine x_iast C at_X13_state rfl dX13_goesOn_95 (fun _ => ?_)
          refine x_letS (fun s37 => ?_)
          refine x_aload_n C 0 dX13_goesOn_96 rfl rfl ?_
          refine x_get (v := .ref (xqa (xXE X).2.2 198)) C 25 cls_X13 at_X13 (by decide) wd1527 rfl (xV_r (rt_X13_risenAt  _) rfl) dX13_goesOn_97 ?_
          refine x_iload_n C 2 dX13_goesOn_100 rfl rfl ?_
          refine x_aload_n C 0 dX13_goesOn_101 rfl rfl ?_
          refine x_get (v := iV (s37 184 34)) C 34 cls_X13 at_X13 (by decide) wd1536 rfl rfl dX13_goesOn_102 ?_
          refine x_iast C at_X13_risenAt rfl dX13_goesOn_105 (fun _ => ?_)
          refine x_letS (fun s38 => ?_)
          refine x_aload_n C 0 dX13_goesOn_106 rfl rfl ?_
          refine x_get (v := .ref (xqa (xXE X).2.2 199)) C 26 cls_X13 at_X13 (by decide) wd1528 rfl (xV_r (rt_X13_risen  _) rfl) dX13_goesOn_107 ?_
          refine x_aload_n C 0 dX13_goesOn_110 rfl rfl ?_
          refine x_get (v := iV (s38 184 27)) C 27 cls_X13 at_X13 (by decide) wd1529 rfl rfl dX13_goesOn_111 ?_
          refine x_iload_n C 2 dX13_goesOn_114 rfl rfl ?_
          refine x_iast C at_X13_risen rfl dX13_goesOn_115 (fun _ => ?_)
          refine x_letS (fun s39 => ?_)
          refine x_aload_n C 0 dX13_goesOn_116 rfl rfl ?_
          refine x_aload_n C 0 dX13_goesOn_117 rfl rfl ?_
          refine x_get (v := iV (s39 184 27)) C 27 cls_X13 at_X13 (by decide) wd1529 rfl rfl dX13_goesOn_118 ?_
          refine x_iconst C (1) dX13_goesOn_121 rfl ?_
          refine x_iadd C dX13_goesOn_122 ?_
          refine x_put C 27 ((s39 184 27) + 1) cls_X13 at_X13 (by decide) wd1529 rfl rfl rfl rfl (xV_pI rfl) dX13_goesOn_123 ?_
          refine x_letS (fun s40 => ?_)
          refine x_pick [0, 1, 2, 3] rfl ?_
          exact hJ6 s40
  · intro J2 hJ3
    refine x_icmp_ne C 66 rfl (zIl _ rfl) dX13_goesOn_14 rfl (fun c41 => x_on c41 ?_) (fun c41 => x_op c41 ?_)
    · refine x_pick [1, 2, 3, 0] rfl ?_
      exact hJ3 σ
    · refine x_aload_n C 1 dX13_goesOn_17 rfl rfl ?_
      refine x_get (v := .ref (xqa (xXE X).2.2 194)) C 21 cls_X13 at_X13 (by decide) wd1523 rfl (xV_r (rt_X13_until  _) rfl) dX13_goesOn_18 ?_
      refine x_iload_n C 3 dX13_goesOn_21 rfl rfl ?_
      refine x_iald C at_X13_until rfl dX13_goesOn_22 (fun _ => ?_)
      refine x_aload_n C 1 dX13_goesOn_23 rfl rfl ?_
      refine x_get (v := iV (σ 184 34)) C 34 cls_X13 at_X13 (by decide) wd1536 rfl rfl dX13_goesOn_24 ?_
      refine x_icmp_ne C 66 rfl rfl dX13_goesOn_27 rfl (fun c42 => x_on c42 ?_) (fun c42 => x_op c42 ?_)
      · refine x_pick [1, 2, 3, 0] rfl ?_
        exact hJ3 σ
      · refine x_aload_n C 1 dX13_goesOn_30 rfl rfl ?_
        refine x_iload_n C 3 dX13_goesOn_31 rfl rfl ?_
        refine x_iconst C (1) dX13_goesOn_32 rfl ?_
        refine x_callV C (ct_X13_reaches _ _ p2 1 σ) mt_X13_reaches vr_X13_reaches wd1953 cls_X13 at_X13 rfl ⟨rfl, rfl, Nat.le_of_ble_eq_true rfl, Nat.le_of_ble_eq_true rfl⟩ rfl (by decide) dX13_goesOn_33 (kV (fun s43 => ?_))
        refine x_aload_n C 1 dX13_goesOn_36 rfl rfl ?_
        refine x_get (v := .ref (xqa (xXE X).2.2 193)) C 20 cls_X13 at_X13 (by decide) wd1522 rfl (xV_r (rt_X13_state  _) rfl) dX13_goesOn_37 ?_
        refine x_iload_n C 3 dX13_goesOn_40 rfl rfl ?_
        refine x_iconst C (2) dX13_goesOn_41 rfl ?_
        refine x_iast C at_X13_state rfl dX13_goesOn_42 (fun _ => ?_)
        refine x_letS (fun s44 => ?_)
        refine x_aload_n C 1 dX13_goesOn_43 rfl rfl ?_
        refine x_get (v := .ref (xqa (xXE X).2.2 194)) C 21 cls_X13 at_X13 (by decide) wd1523 rfl (xV_r (rt_X13_until  _) rfl) dX13_goesOn_44 ?_
        refine x_iload_n C 3 dX13_goesOn_47 rfl rfl ?_
        refine x_aload_n C 1 dX13_goesOn_48 rfl rfl ?_
        refine x_get (v := iV (s44 184 34)) C 34 cls_X13 at_X13 (by decide) wd1536 rfl rfl dX13_goesOn_49 ?_
        refine x_aload_n C 1 dX13_goesOn_52 rfl rfl ?_
        refine x_aload_n C 2 dX13_goesOn_53 rfl rfl ?_
        refine x_aload_n C 1 dX13_goesOn_54 rfl rfl ?_
        refine x_aload_n C 2 dX13_goesOn_55 rfl rfl ?_
        refine x_iload_n C 0 dX13_goesOn_56 rfl rfl ?_
        refine x_iconst C (1) dX13_goesOn_57 rfl ?_
        refine x_callV C (ct_X13_dough _ _ k1 v1 1 s44 hk1) mt_X13_dough vr_X13_dough wd1895 cls_X13 at_X13 rfl ⟨rfl, rfl, Nat.le_of_ble_eq_true rfl, Nat.le_of_ble_eq_true rfl⟩ rfl (Nat.le_of_ble_eq_true rfl) dX13_goesOn_58 (kI (fun v45 => ?_))
        refine x_callV C (ct_X13_slowed _ _ k1 v45 s44 hk1) mt_X13_slowed vr_X13_slowed wd1907 cls_X13 at_X13 rfl ⟨rfl, rfl, Nat.le_of_ble_eq_true rfl, Nat.le_of_ble_eq_true rfl⟩ rfl (Nat.le_of_ble_eq_true rfl) dX13_goesOn_61 (kI (fun v46 => ?_))
        refine x_iadd C dX13_goesOn_64 ?_
        refine x_iast C at_X13_until rfl dX13_goesOn_65 (fun _ => ?_)
        refine x_letS (fun s47 => ?_)
        refine x_pick [1, 2, 3, 0] rfl ?_
        exact hJ3 s47
theorem ct_X13_goesOn (l : Launch) (E : xE) (k1 : Nat) (p2 : Int) (σ : xS) (hk1 : xAt WW k1 0 289)  : xMet l E yX13_goesOn cX13_goesOn 4 none { frames := 2, cells := 0, slots := 0, locals := 44 } [.ref (xqa E.2.2 184), .ref (xqa E.2.2 k1), iV p2] WW WW σ (xrV (m_X13_goesOn k1 p2 σ)) := by
  refine xMet.of0 (by decide) (Nat.le_of_ble_eq_true rfl) rfl rfl (fun X hE C => ?_)
  subst hE
  exact xMap (fun q => (none, q)) (wk_X13_goesOn C (fun _ => rfl) hk1)
theorem mt_X13_goesOn : xMth yX13_goesOn cX13_goesOn 4 none 2 := ⟨wd1952, wd164, ⟨by decide, by decide, rfl⟩⟩
theorem vr_X13_goesOn : xVir yX13_goesOn := ⟨wd1951, wd101⟩
