def m_X13_name (n : Nat) (σ : xS) : Option (Int × xS) :=
  if (m_X13_fine σ) = 0 then some (0, σ) else xlet (xput σ 184 14 (σ 184 11)) fun s2 => (m_X13_wordLength n s2).bind fun v3 => xj (fun (q8 : xS) => if (m_X13_fine q8) = 0 then some (0, q8) else loopF (fun rec11 (t10 : Int × Int) => if (zI v3) ≤ (zI t10.2) then xlet (xput q8 184 11 ((q8 184 11) + v3)) fun s14 => (m_X13_skips n s14).bind fun s15 => some (t10.1, s15) else (m_X13_byteAt ((q8 184 11) + t10.2) q8).bind fun v16 => xlet ((((27 * t10.1) + (zI v16)) - 97) + 1) fun v17 => xlet (t10.2 + 1) fun v18 => rec11 (v17, v18)) n (0, 0)) fun J6 => xj (fun (q21 : Unit) => (m_X13_faulty 1 (s2 184 11) s2).bind fun s22 => J6 s22) fun J19 => if (zI v3) = 0 then J19 () else if 8 < (zI v3) then J19 () else (m_X13_isKeyword n s2).bind fun v25 => if (zI v25) = 0 then J6 s2 else J19 ()
set_option maxHeartbeats 4000000 in
set_option maxRecDepth 100000 in
theorem wk_X13_name {X : xX} {Qf : (Int × xS) → State → Prop} {n : Nat} {σ : xS} (C : xCx X cX13_name "BakeryNightModel" (some .long) { frames := 7, cells := 0, slots := 0, locals := 148 } 5) (hQ : ∀ v τ, Qf (v, τ) = xQf X WW (some (jV v), τ))  : WO X Qf WW σ 0 [(0, .ref (xqa (xXE X).2.2 184))] [] (m_X13_name n σ) := by
  unfold m_X13_name
  refine x_aload_n C 0 dX13_name_0 rfl rfl ?_
  refine x_callV C (ct_X13_fine _ _ σ) mt_X13_fine vr_X13_fine wd1700 cls_X13 at_X13 rfl ⟨rfl, rfl, Nat.le_of_ble_eq_true rfl, Nat.le_of_ble_eq_true rfl⟩ rfl (by decide) dX13_name_1 (kP ?_)
  refine x_if_ne C 9 (zI_bo (bo_X13_fine _)) dX13_name_4 rfl (fun c1 => x_on c1 ?_) (fun c1 => x_op c1 ?_)
  · refine x_aload_n C 0 dX13_name_9 rfl rfl ?_
    refine x_aload_n C 0 dX13_name_10 rfl rfl ?_
    refine x_get (v := iV (σ 184 11)) C 11 cls_X13 at_X13 (by decide) wd1513 rfl rfl dX13_name_11 ?_
    refine x_put C 14 (σ 184 11) cls_X13 at_X13 (by decide) wd1516 rfl rfl rfl rfl (xV_pI rfl) dX13_name_14 ?_
    refine x_letS (fun s2 => ?_)
    refine x_aload_n C 0 dX13_name_17 rfl rfl ?_
    refine x_callV C (ct_X13_wordLength _ _ n s2) mt_X13_wordLength vr_X13_wordLength wd1717 cls_X13 at_X13 rfl ⟨rfl, rfl, Nat.le_of_ble_eq_true rfl, Nat.le_of_ble_eq_true rfl⟩ rfl (by decide) dX13_name_18 (kI (fun v3 => ?_))
    refine x_istore_n (L' := [(1, _), (0, _)]) C dX13_name_21 rfl (by decide) rfl ?_
    refine x_iload_n C 0 dX13_name_22 rfl rfl ?_
    refine x_join (fun J => ∀ q8 : xS, WO X Qf WW q8 48 [(0, .ref (xqa (xXE X).2.2 184)), (1, iV v3)] [] (J q8)) ?_ ?_
    · intro q8
      refine x_aload_n C 0 dX13_name_48 rfl rfl ?_
      refine x_callV C (ct_X13_fine _ _ q8) mt_X13_fine vr_X13_fine wd1700 cls_X13 at_X13 rfl ⟨rfl, rfl, Nat.le_of_ble_eq_true rfl, Nat.le_of_ble_eq_true rfl⟩ rfl (by decide) dX13_name_49 (kP ?_)
      refine x_if_ne C 57 (zI_bo (bo_X13_fine _)) dX13_name_52 rfl (fun c9 => x_on c9 ?_) (fun c9 => x_op c9 ?_)
      · refine x_lconst C 0 dX13_name_57 rfl ?_
        refine x_lstore_n (L' := [(2, _), (0, _), (1, _)]) C dX13_name_58 rfl (by decide) rfl ?_
        refine x_iconst C (0) dX13_name_59 rfl ?_
        refine x_istore (L' := [(4, _), (2, _), (0, _), (1, _)]) C dX13_name_60 (by decide) rfl ?_
        refine x_pick [2, 3, 1, 0] rfl ?_
        refine x_loop (fun t10 : Int × Int => q8) (fun t10 : Int × Int => [(0, .ref (xqa (xXE X).2.2 184)), (1, iV v3), (2, jV t10.1), (4, iV t10.2)]) (fun rec11 hr12 t10 => ?_) n (0, 0)
        refine x_iload C 3 dX13_name_62 rfl ?_
        refine x_iload_n C 1 dX13_name_64 rfl rfl ?_
        refine x_icmp_ge C 99 rfl rfl dX13_name_65 rfl (fun c13 => x_op c13 ?_) (fun c13 => x_on c13 ?_)
        · refine x_aload_n C 0 dX13_name_99 rfl rfl ?_
          refine x_aload_n C 0 dX13_name_100 rfl rfl ?_
          refine x_get (v := iV (q8 184 11)) C 11 cls_X13 at_X13 (by decide) wd1513 rfl rfl dX13_name_101 ?_
          refine x_iload_n C 1 dX13_name_104 rfl rfl ?_
          refine x_iadd C dX13_name_105 ?_
          refine x_put C 11 ((q8 184 11) + v3) cls_X13 at_X13 (by decide) wd1513 rfl rfl rfl rfl (xV_pI rfl) dX13_name_106 ?_
          refine x_letS (fun s14 => ?_)
          refine x_aload_n C 0 dX13_name_109 rfl rfl ?_
          refine x_callV C (ct_X13_skips _ _ n s14) mt_X13_skips vr_X13_skips wd1688 cls_X13 at_X13 rfl ⟨rfl, rfl, Nat.le_of_ble_eq_true rfl, Nat.le_of_ble_eq_true rfl⟩ rfl (by decide) dX13_name_110 (kV (fun s15 => ?_))
          refine x_lload_n C 2 dX13_name_113 rfl rfl ?_
          exact x_lretQ C (hQ _ _) rfl dX13_name_114
        · refine x_ldc2 C (27) wd1802 rfl dX13_name_68 ?_
          refine x_lload_n C 2 dX13_name_71 rfl rfl ?_
          refine x_lmul C dX13_name_72 ?_
          refine x_aload_n C 0 dX13_name_73 rfl rfl ?_
          refine x_aload_n C 0 dX13_name_74 rfl rfl ?_
          refine x_get (v := iV (q8 184 11)) C 11 cls_X13 at_X13 (by decide) wd1513 rfl rfl dX13_name_75 ?_
          refine x_iload C 3 dX13_name_78 rfl ?_
          refine x_iadd C dX13_name_80 ?_
          refine x_callV C (ct_X13_byteAt _ _ ((q8 184 11) + t10.2) q8) mt_X13_byteAt vr_X13_byteAt wd1696 cls_X13 at_X13 rfl ⟨rfl, rfl, Nat.le_of_ble_eq_true rfl, Nat.le_of_ble_eq_true rfl⟩ rfl (Nat.le_of_ble_eq_true rfl) dX13_name_81 (kI (fun v16 => ?_))
          refine x_i2l C dX13_name_84 ?_
          refine x_ladd C dX13_name_85 ?_
          refine x_ldc2 C (97) wd1725 rfl dX13_name_86 ?_
          refine x_lsub C dX13_name_89 ?_
          refine x_lconst C 1 dX13_name_90 rfl ?_
          refine x_ladd C dX13_name_91 ?_
          refine x_letL (fun v17 => ?_)
          refine x_lstore_n (L' := [(2, _), (0, _), (1, _), (4, _)]) C dX13_name_92 rfl (by decide) rfl ?_
          refine x_inc C 3 (f := _) dX13_name_93 rfl (by decide) (1) rfl (fun v18 => ?_)
          refine x_reL (L' := [(4, _), (2, _), (0, _), (1, _)]) rfl ?_
          refine x_goto C 62 dX13_name_96 rfl ?_
          refine x_pick [2, 3, 1, 0] rfl ?_
          exact hr12 (v17, v18)
      · refine x_lconst C 0 dX13_name_55 rfl ?_
        exact x_lretQ C (hQ _ _) rfl dX13_name_56
    · intro J6 hJ7
      refine x_join (fun J => ∀ q21 : Unit, WO X Qf WW s2 39 [(0, .ref (xqa (xXE X).2.2 184)), (1, iV v3)] [] (J q21)) ?_ ?_
      · intro q21
        refine x_aload_n C 0 dX13_name_39 rfl rfl ?_
        refine x_iconst C (1) dX13_name_40 rfl ?_
        refine x_aload_n C 0 dX13_name_41 rfl rfl ?_
        refine x_get (v := iV (s2 184 11)) C 11 cls_X13 at_X13 (by decide) wd1513 rfl rfl dX13_name_42 ?_
        refine x_callV C (ct_X13_faulty _ _ 1 (s2 184 11) s2) mt_X13_faulty vr_X13_faulty wd1750 cls_X13 at_X13 rfl ⟨rfl, rfl, Nat.le_of_ble_eq_true rfl, Nat.le_of_ble_eq_true rfl⟩ rfl (by decide) dX13_name_45 (kV (fun s22 => ?_))
        refine x_pick [0, 1] rfl ?_
        exact hJ7 s22
      · intro J19 hJ20
        refine x_if_eq C 39 rfl dX13_name_23 rfl (fun c23 => x_op c23 ?_) (fun c23 => x_on c23 ?_)
        · refine x_pick [1, 0] rfl ?_
          exact hJ20 ()
        · refine x_iload_n C 0 dX13_name_26 rfl rfl ?_
          refine x_bipush C (8) dX13_name_27 rfl ?_
          refine x_icmp_gt C 39 rfl (zIl _ rfl) dX13_name_29 rfl (fun c24 => x_op c24 ?_) (fun c24 => x_on c24 ?_)
          · refine x_pick [1, 0] rfl ?_
            exact hJ20 ()
          · refine x_aload_n C 1 dX13_name_32 rfl rfl ?_
            refine x_callV C (ct_X13_isKeyword _ _ n s2) mt_X13_isKeyword vr_X13_isKeyword wd1784 cls_X13 at_X13 rfl ⟨rfl, rfl, Nat.le_of_ble_eq_true rfl, Nat.le_of_ble_eq_true rfl⟩ rfl (by decide) dX13_name_33 (kI (fun v25 => ?_))
            refine x_if_eq C 48 rfl dX13_name_36 rfl (fun c26 => x_op c26 ?_) (fun c26 => x_on c26 ?_)
            · refine x_pick [1, 0] rfl ?_
              exact hJ7 s2
            · refine x_pick [1, 0] rfl ?_
              exact hJ20 ()
  · refine x_lconst C 0 dX13_name_7 rfl ?_
    exact x_lretQ C (hQ _ _) rfl dX13_name_8
theorem ct_X13_name (l : Launch) (E : xE) (n : Nat) (σ : xS)   : xMet l E yX13_name cX13_name 5 (some .long) { frames := 7, cells := 0, slots := 0, locals := 148 } [.ref (xqa E.2.2 184)] WW WW σ (xrT (m_X13_name n σ)) := by
  refine xMet.of0 (by decide) (Nat.le_of_ble_eq_true rfl) rfl rfl (fun X hE C => ?_)
  subst hE
  exact xMap (fun q => (some (jV q.1), q.2)) (wk_X13_name C (fun _ _ => rfl) )
theorem mt_X13_name : xMth yX13_name cX13_name 5 (some .long) 0 := ⟨wd1783, wd164, ⟨by decide, by decide, rfl⟩⟩
theorem vr_X13_name : xVir yX13_name := ⟨wd1782, wd70⟩
def m_X13_fresh (n : Nat) (k1 z1 : Nat) (p2 : Int) (σ : xS) : Option (Int × xS) :=
  xbS (m_X13_name n σ) fun v2 s1 => xj (fun (q6 : xS) => some (v2, q6)) fun J4 => if (m_X13_fine s1) = 0 then J4 s1 else (m_X13_placeOf n k1 z1 p2 v2 s1).bind fun v8 => if (zI v8) = (-1) then J4 s1 else (m_X13_faulty 3 (s1 184 14) s1).bind fun s10 => J4 s10
set_option maxHeartbeats 4000000 in
set_option maxRecDepth 100000 in
theorem wk_X13_fresh {X : xX} {Qf : (Int × xS) → State → Prop} {n : Nat} {k1 z1 : Nat} {p2 : Int} {σ : xS} (C : xCx X cX13_fresh "BakeryNightModel" (some .long) { frames := 8, cells := 0, slots := 0, locals := 172 } 5) (hQ : ∀ v τ, Qf (v, τ) = xQf X WW (some (jV v), τ)) (hk1 : xAt WW k1 1 z1) : WO X Qf WW σ 0 [(0, .ref (xqa (xXE X).2.2 184)), (1, .ref (xqa (xXE X).2.2 k1)), (2, iV p2)] [] (m_X13_fresh n k1 z1 p2 σ) := by
  unfold m_X13_fresh
  refine x_aload_n C 0 dX13_fresh_0 rfl rfl ?_
  refine x_callV C (ct_X13_name _ _ n σ) mt_X13_name vr_X13_name wd1780 cls_X13 at_X13 rfl ⟨rfl, rfl, Nat.le_of_ble_eq_true rfl, Nat.le_of_ble_eq_true rfl⟩ rfl (by decide) dX13_fresh_1 (kT (fun v2 s1 => ?_))
  refine x_lstore_n (L' := [(3, _), (0, _), (1, _), (2, _)]) C dX13_fresh_4 rfl (by decide) rfl ?_
  refine x_aload_n C 1 dX13_fresh_5 rfl rfl ?_
  refine x_callV C (ct_X13_fine _ _ s1) mt_X13_fine vr_X13_fine wd1700 cls_X13 at_X13 rfl ⟨rfl, rfl, Nat.le_of_ble_eq_true rfl, Nat.le_of_ble_eq_true rfl⟩ rfl (by decide) dX13_fresh_6 (kP ?_)
  refine x_join (fun J => ∀ q6 : xS, WO X Qf WW q6 32 [(3, jV v2)] [] (J q6)) ?_ ?_
  · intro q6
    refine x_lload_n C 0 dX13_fresh_32 rfl rfl ?_
    exact x_lretQ C (hQ _ _) rfl dX13_fresh_33
  · intro J4 hJ5
    refine x_if_eq C 32 (zI_bo (bo_X13_fine _)) dX13_fresh_9 rfl (fun c7 => x_op c7 ?_) (fun c7 => x_on c7 ?_)
    · refine x_pick [0] rfl ?_
      exact hJ5 s1
    · refine x_aload_n C 1 dX13_fresh_12 rfl rfl ?_
      refine x_aload_n C 2 dX13_fresh_13 rfl rfl ?_
      refine x_iload_n C 3 dX13_fresh_14 rfl rfl ?_
      refine x_lload_n C 0 dX13_fresh_15 rfl rfl ?_
      refine x_callV C (ct_X13_placeOf _ _ n k1 z1 p2 v2 s1 hk1) mt_X13_placeOf vr_X13_placeOf wd1803 cls_X13 at_X13 rfl ⟨rfl, rfl, Nat.le_of_ble_eq_true rfl, Nat.le_of_ble_eq_true rfl⟩ rfl (by decide) dX13_fresh_16 (kI (fun v8 => ?_))
      refine x_iconst C (-1) dX13_fresh_19 rfl ?_
      refine x_icmp_eq C 32 rfl (zIl _ rfl) dX13_fresh_20 rfl (fun c9 => x_op c9 ?_) (fun c9 => x_on c9 ?_)
      · refine x_pick [0] rfl ?_
        exact hJ5 s1
      · refine x_aload_n C 1 dX13_fresh_23 rfl rfl ?_
        refine x_iconst C (3) dX13_fresh_24 rfl ?_
        refine x_aload_n C 1 dX13_fresh_25 rfl rfl ?_
        refine x_get (v := iV (s1 184 14)) C 14 cls_X13 at_X13 (by decide) wd1516 rfl rfl dX13_fresh_26 ?_
        refine x_callV C (ct_X13_faulty _ _ 3 (s1 184 14) s1) mt_X13_faulty vr_X13_faulty wd1750 cls_X13 at_X13 rfl ⟨rfl, rfl, Nat.le_of_ble_eq_true rfl, Nat.le_of_ble_eq_true rfl⟩ rfl (by decide) dX13_fresh_29 (kV (fun s10 => ?_))
        refine x_pick [0] rfl ?_
        exact hJ5 s10
theorem ct_X13_fresh (l : Launch) (E : xE) (n : Nat) (k1 z1 : Nat) (p2 : Int) (σ : xS) (hk1 : xAt WW k1 1 z1)  : xMet l E yX13_fresh cX13_fresh 5 (some .long) { frames := 8, cells := 0, slots := 0, locals := 172 } [.ref (xqa E.2.2 184), .ref (xqa E.2.2 k1), iV p2] WW WW σ (xrT (m_X13_fresh n k1 z1 p2 σ)) := by
  refine xMet.of0 (by decide) (Nat.le_of_ble_eq_true rfl) rfl rfl (fun X hE C => ?_)
  subst hE
  exact xMap (fun q => (some (jV q.1), q.2)) (wk_X13_fresh C (fun _ _ => rfl) hk1)
theorem mt_X13_fresh : xMth yX13_fresh cX13_fresh 5 (some .long) 2 := ⟨wd1779, wd164, ⟨by decide, by decide, rfl⟩⟩
theorem vr_X13_fresh : xVir yX13_fresh := ⟨wd1778, wd69⟩
def m_X13_known (n : Nat) (k1 z1 : Nat) (p2 : Int) (σ : xS) : Option (Int × xS) :=
  xbS (m_X13_name n σ) fun v2 s1 => if (m_X13_fine s1) = 0 then some (0, s1) else (m_X13_placeOf n k1 z1 p2 v2 s1).bind fun v4 => xj (fun (q8 : xS) => some (m_X13_greater v4 0, q8)) fun J6 => if (zI v4) = (-1) then (m_X13_faulty 4 (s1 184 14) s1).bind fun s10 => J6 s10 else J6 s1
set_option maxHeartbeats 4000000 in
set_option maxRecDepth 100000 in
theorem wk_X13_known {X : xX} {Qf : (Int × xS) → State → Prop} {n : Nat} {k1 z1 : Nat} {p2 : Int} {σ : xS} (C : xCx X cX13_known "BakeryNightModel" (some .int) { frames := 8, cells := 0, slots := 0, locals := 172 } 6) (hQ : ∀ v τ, Qf (v, τ) = xQf X WW (some (iV v), τ)) (hk1 : xAt WW k1 1 z1) : WO X Qf WW σ 0 [(0, .ref (xqa (xXE X).2.2 184)), (1, .ref (xqa (xXE X).2.2 k1)), (2, iV p2)] [] (m_X13_known n k1 z1 p2 σ) := by
  unfold m_X13_known
  refine x_aload_n C 0 dX13_known_0 rfl rfl ?_
  refine x_callV C (ct_X13_name _ _ n σ) mt_X13_name vr_X13_name wd1780 cls_X13 at_X13 rfl ⟨rfl, rfl, Nat.le_of_ble_eq_true rfl, Nat.le_of_ble_eq_true rfl⟩ rfl (by decide) dX13_known_1 (kT (fun v2 s1 => ?_))
  refine x_lstore_n (L' := [(3, _), (0, _), (1, _), (2, _)]) C dX13_known_4 rfl (by decide) rfl ?_
  refine x_aload_n C 1 dX13_known_5 rfl rfl ?_
  refine x_callV C (ct_X13_fine _ _ s1) mt_X13_fine vr_X13_fine wd1700 cls_X13 at_X13 rfl ⟨rfl, rfl, Nat.le_of_ble_eq_true rfl, Nat.le_of_ble_eq_true rfl⟩ rfl (by decide) dX13_known_6 (kP ?_)
  refine x_if_ne C 14 (zI_bo (bo_X13_fine _)) dX13_known_9 rfl (fun c3 => x_on c3 ?_) (fun c3 => x_op c3 ?_)
  · refine x_aload_n C 1 dX13_known_14 rfl rfl ?_
    refine x_aload_n C 2 dX13_known_15 rfl rfl ?_
    refine x_iload_n C 3 dX13_known_16 rfl rfl ?_
    refine x_lload_n C 0 dX13_known_17 rfl rfl ?_
    refine x_callV C (ct_X13_placeOf _ _ n k1 z1 p2 v2 s1 hk1) mt_X13_placeOf vr_X13_placeOf wd1803 cls_X13 at_X13 rfl ⟨rfl, rfl, Nat.le_of_ble_eq_true rfl, Nat.le_of_ble_eq_true rfl⟩ rfl (by decide) dX13_known_18 (kI (fun v4 => ?_))
    refine x_istore (L' := [(5, _), (3, _), (0, _), (1, _), (2, _)]) C dX13_known_21 (by decide) rfl ?_
    refine x_iload C 0 dX13_known_23 rfl ?_
    refine x_iconst C (-1) dX13_known_25 rfl ?_
    refine x_join (fun J => ∀ q8 : xS, WO X Qf WW q8 38 [(0, .ref (xqa (xXE X).2.2 184)), (5, iV v4)] [] (J q8)) ?_ ?_
    · intro q8
      refine x_aload_n C 0 dX13_known_38 rfl rfl ?_
      refine x_iload C 1 dX13_known_39 rfl ?_
      refine x_iconst C (0) dX13_known_41 rfl ?_
      refine x_callV C (ct_X13_greater _ _ v4 0 q8) mt_X13_greater vr_X13_greater wd1835 cls_X13 at_X13 rfl ⟨rfl, rfl, Nat.le_of_ble_eq_true rfl, Nat.le_of_ble_eq_true rfl⟩ rfl (by decide) dX13_known_42 (kP ?_)
      exact x_iretQ C (hQ _ _) rfl dX13_known_45
    · intro J6 hJ7
      refine x_icmp_ne C 38 rfl (zIl _ rfl) dX13_known_26 rfl (fun c9 => x_on c9 ?_) (fun c9 => x_op c9 ?_)
      · refine x_pick [2, 0] rfl ?_
        exact hJ7 s1
      · refine x_aload_n C 2 dX13_known_29 rfl rfl ?_
        refine x_iconst C (4) dX13_known_30 rfl ?_
        refine x_aload_n C 2 dX13_known_31 rfl rfl ?_
        refine x_get (v := iV (s1 184 14)) C 14 cls_X13 at_X13 (by decide) wd1516 rfl rfl dX13_known_32 ?_
        refine x_callV C (ct_X13_faulty _ _ 4 (s1 184 14) s1) mt_X13_faulty vr_X13_faulty wd1750 cls_X13 at_X13 rfl ⟨rfl, rfl, Nat.le_of_ble_eq_true rfl, Nat.le_of_ble_eq_true rfl⟩ rfl (by decide) dX13_known_35 (kV (fun s10 => ?_))
        refine x_pick [2, 0] rfl ?_
        exact hJ7 s10
  · refine x_iconst C (0) dX13_known_12 rfl ?_
    exact x_iretQ C (hQ _ _) rfl dX13_known_13
theorem ct_X13_known (l : Launch) (E : xE) (n : Nat) (k1 z1 : Nat) (p2 : Int) (σ : xS) (hk1 : xAt WW k1 1 z1)  : xMet l E yX13_known cX13_known 6 (some .int) { frames := 8, cells := 0, slots := 0, locals := 172 } [.ref (xqa E.2.2 184), .ref (xqa E.2.2 k1), iV p2] WW WW σ (xrS (m_X13_known n k1 z1 p2 σ)) := by
  refine xMet.of0 (by decide) (Nat.le_of_ble_eq_true rfl) rfl rfl (fun X hE C => ?_)
  subst hE
  exact xMap (fun q => (some (iV q.1), q.2)) (wk_X13_known C (fun _ _ => rfl) hk1)
theorem mt_X13_known : xMth yX13_known cX13_known 6 (some .int) 2 := ⟨wd1834, wd164, ⟨by decide, by decide, rfl⟩⟩
theorem vr_X13_known : xVir yX13_known := ⟨wd1833, wd79⟩
def m_X13_singleHere (n : Nat) (σ : xS) : Option Int :=
  (m_X13_isWord n 0 σ).bind fun v1 => xj (fun (q5 : Int) => some q5) fun J3 => if (zI v1) = 0 then (m_X13_isWord n 1 σ).bind fun v7 => if (zI v7) = 0 then (m_X13_isWord n 2 σ).bind fun v9 => if (zI v9) = 0 then (m_X13_isWord n 3 σ).bind fun v11 => if (zI v11) = 0 then J3 (-1) else J3 3 else J3 2 else J3 1 else J3 0
set_option maxHeartbeats 4000000 in
set_option maxRecDepth 100000 in
theorem wk_X13_singleHere {X : xX} {Qf : Int → State → Prop} {n : Nat} {σ : xS} (C : xCx X cX13_singleHere "BakeryNightModel" (some .int) { frames := 6, cells := 0, slots := 0, locals := 128 } 1) (hQ : ∀ v, Qf v = xQf X WW (some (iV v), σ))  : WO X Qf WW σ 0 [(0, .ref (xqa (xXE X).2.2 184))] [] (m_X13_singleHere n σ) := by
  unfold m_X13_singleHere
  refine x_aload_n C 0 dX13_singleHere_0 rfl rfl ?_
  refine x_ldcS C (i := 0) sr0 dX13_singleHere_1 ?_
  refine x_callV C (ct_X13_isWord _ _ n 0 σ (by decide)) mt_X13_isWord vr_X13_isWord wd1713 cls_X13 at_X13 rfl ⟨rfl, rfl, Nat.le_of_ble_eq_true rfl, Nat.le_of_ble_eq_true rfl⟩ rfl (by decide) dX13_singleHere_3 (kI (fun v1 => ?_))
  refine x_join (fun J => ∀ q5 : Int, WO X Qf WW σ 53 [] [iV q5] (J q5)) ?_ ?_
  · intro q5
    exact x_iretQ C (hQ _) rfl dX13_singleHere_53
  · intro J3 hJ4
    refine x_if_eq C 13 rfl dX13_singleHere_6 rfl (fun c6 => x_op c6 ?_) (fun c6 => x_on c6 ?_)
    · refine x_aload_n C 0 dX13_singleHere_13 rfl rfl ?_
      refine x_ldcS C (i := 1) sr1 dX13_singleHere_14 ?_
      refine x_callV C (ct_X13_isWord _ _ n 1 σ (by decide)) mt_X13_isWord vr_X13_isWord wd1713 cls_X13 at_X13 rfl ⟨rfl, rfl, Nat.le_of_ble_eq_true rfl, Nat.le_of_ble_eq_true rfl⟩ rfl (by decide) dX13_singleHere_16 (kI (fun v7 => ?_))
      refine x_if_eq C 26 rfl dX13_singleHere_19 rfl (fun c8 => x_op c8 ?_) (fun c8 => x_on c8 ?_)
      · refine x_aload_n C 0 dX13_singleHere_26 rfl rfl ?_
        refine x_ldcS C (i := 2) sr2 dX13_singleHere_27 ?_
        refine x_callV C (ct_X13_isWord _ _ n 2 σ (by decide)) mt_X13_isWord vr_X13_isWord wd1713 cls_X13 at_X13 rfl ⟨rfl, rfl, Nat.le_of_ble_eq_true rfl, Nat.le_of_ble_eq_true rfl⟩ rfl (by decide) dX13_singleHere_29 (kI (fun v9 => ?_))
        refine x_if_eq C 39 rfl dX13_singleHere_32 rfl (fun c10 => x_op c10 ?_) (fun c10 => x_on c10 ?_)
        · refine x_aload_n C 0 dX13_singleHere_39 rfl rfl ?_
          refine x_ldcS C (i := 3) sr3 dX13_singleHere_40 ?_
          refine x_callV C (ct_X13_isWord _ _ n 3 σ (by decide)) mt_X13_isWord vr_X13_isWord wd1713 cls_X13 at_X13 rfl ⟨rfl, rfl, Nat.le_of_ble_eq_true rfl, Nat.le_of_ble_eq_true rfl⟩ rfl (by decide) dX13_singleHere_42 (kI (fun v11 => ?_))
          refine x_if_eq C 52 rfl dX13_singleHere_45 rfl (fun c12 => x_op c12 ?_) (fun c12 => x_on c12 ?_)
          · refine x_iconst C (-1) dX13_singleHere_52 rfl ?_
            refine x_pick [] rfl ?_
            exact hJ4 (-1)
          · refine x_iconst C (3) dX13_singleHere_48 rfl ?_
            refine x_goto C 53 dX13_singleHere_49 rfl ?_
            refine x_pick [] rfl ?_
            exact hJ4 3
        · refine x_iconst C (2) dX13_singleHere_35 rfl ?_
          refine x_goto C 53 dX13_singleHere_36 rfl ?_
          refine x_pick [] rfl ?_
          exact hJ4 2
      · refine x_iconst C (1) dX13_singleHere_22 rfl ?_
        refine x_goto C 53 dX13_singleHere_23 rfl ?_
        refine x_pick [] rfl ?_
        exact hJ4 1
    · refine x_iconst C (0) dX13_singleHere_9 rfl ?_
      refine x_goto C 53 dX13_singleHere_10 rfl ?_
      refine x_pick [] rfl ?_
      exact hJ4 0
theorem ct_X13_singleHere (l : Launch) (E : xE) (n : Nat) (σ : xS)   : xMet l E yX13_singleHere cX13_singleHere 1 (some .int) { frames := 6, cells := 0, slots := 0, locals := 128 } [.ref (xqa E.2.2 184)] WW WW σ (xrI (m_X13_singleHere n σ) σ) := by
  refine xMet.of0 (by decide) (Nat.le_of_ble_eq_true rfl) rfl rfl (fun X hE C => ?_)
  subst hE
  exact xMap (fun v => (some (iV v), σ)) (wk_X13_singleHere C (fun _ => rfl) )
theorem mt_X13_singleHere : xMth yX13_singleHere cX13_singleHere 1 (some .int) 0 := ⟨wd1711, wd164, ⟨by decide, by decide, rfl⟩⟩
theorem vr_X13_singleHere : xVir yX13_singleHere := ⟨wd1710, wd56⟩
