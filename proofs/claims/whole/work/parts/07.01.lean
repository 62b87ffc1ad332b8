def m_X13_isWord (n : Nat) (k1 : Nat) (σ : xS) : Option Int :=
  xj (fun (q4 : Unit) => some 0) fun J2 => if (m_X13_fine σ) = 0 then J2 () else (m_X13_wordLength n σ).bind fun v6 => if (zI v6) = (zI (m_J0_length_8abf5 k1)) then loopF (fun rec9 (t8 : Int) => if (zI (m_J0_length_8abf5 k1)) ≤ (zI t8) then some 1 else (m_X13_byteAt ((σ 184 11) + t8) σ).bind fun v12 => (m_J0_charAt_5068e k1 t8).bind fun v13 => if (zI v12) = (zI v13) then xlet (t8 + 1) fun v15 => rec9 v15 else some 0) n 0 else J2 ()
set_option maxHeartbeats 4000000 in
set_option maxRecDepth 100000 in
theorem wk_X13_isWord {X : xX} {Qf : Int → State → Prop} {n : Nat} {k1 : Nat} {σ : xS} (C : xCx X cX13_isWord "BakeryNightModel" (some .boolean) { frames := 5, cells := 0, slots := 0, locals := 106 } 3) (hQ : ∀ v, Qf v = xQf X WW (some (iV v), σ)) (hk1 : k1 < 24) : WO X Qf WW σ 0 [(0, .ref ((xXE X).2.2 + 184)), (1, cR X 1 k1)] [] (m_X13_isWord n k1 σ) := by
  unfold m_X13_isWord
  refine x_aload_n C 0 dX13_isWord_0 rfl rfl ?_
  refine x_callV C (ct_X13_fine _ _ σ) mt_X13_fine vr_X13_fine wd1700 cls_X13 at_X13 rfl ⟨rfl, rfl, Nat.le_of_ble_eq_true rfl, Nat.le_of_ble_eq_true rfl⟩ rfl (by decide) dX13_isWord_1 (kP ?_)
  refine x_join (fun J => ∀ q4 : Unit, WO X Qf WW σ 18 [] [] (J q4)) ?_ ?_
  · intro q4
    refine x_iconst C (0) dX13_isWord_18 rfl ?_
    exact x_zretQ C (hQ _) rfl (Or.inl rfl) dX13_isWord_19
  · intro J2 hJ3
    refine x_if_eq C 18 (zI_bo (bo_X13_fine _)) dX13_isWord_4 rfl (fun c5 => x_op c5 ?_) (fun c5 => x_on c5 ?_)
    · refine x_pick [] rfl ?_
      exact hJ3 ()
    · refine x_aload_n C 0 dX13_isWord_7 rfl rfl ?_
      refine x_callV C (ct_X13_wordLength _ _ n σ) mt_X13_wordLength vr_X13_wordLength wd1717 cls_X13 at_X13 rfl ⟨rfl, rfl, Nat.le_of_ble_eq_true rfl, Nat.le_of_ble_eq_true rfl⟩ rfl (by decide) dX13_isWord_8 (kI (fun v6 => ?_))
      refine x_aload_n C 1 dX13_isWord_11 rfl rfl ?_
      refine x_callVs C (ct_J0_length_8abf5 _ _ k1 hk1 σ) mt_J0_length_8abf5 vr_J0_length_8abf5 wd1727 hk1 rfl ⟨rfl, rfl, Nat.le_of_ble_eq_true rfl, Nat.le_of_ble_eq_true rfl⟩ rfl (Nat.le_of_ble_eq_true rfl) dX13_isWord_12 (kP ?_)
      refine x_icmp_eq C 20 rfl rfl dX13_isWord_15 rfl (fun c7 => x_op c7 ?_) (fun c7 => x_on c7 ?_)
      · refine x_iconst C (0) dX13_isWord_20 rfl ?_
        refine x_istore_n (L' := [(2, _), (0, _), (1, _)]) C dX13_isWord_21 rfl (by decide) rfl ?_
        refine x_pick [1, 2, 0] rfl ?_
        refine x_loop (fun t8 : Int => σ) (fun t8 : Int => [(0, .ref ((xXE X).2.2 + 184)), (1, cR X 1 k1), (2, iV t8)]) (fun rec9 hr10 t8 => ?_) n 0
        refine x_iload_n C 2 dX13_isWord_22 rfl rfl ?_
        refine x_aload_n C 1 dX13_isWord_23 rfl rfl ?_
        refine x_callVs C (ct_J0_length_8abf5 _ _ k1 hk1 σ) mt_J0_length_8abf5 vr_J0_length_8abf5 wd1727 hk1 rfl ⟨rfl, rfl, Nat.le_of_ble_eq_true rfl, Nat.le_of_ble_eq_true rfl⟩ rfl (Nat.le_of_ble_eq_true rfl) dX13_isWord_24 (kP ?_)
        refine x_icmp_ge C 56 rfl rfl dX13_isWord_27 rfl (fun c11 => x_op c11 ?_) (fun c11 => x_on c11 ?_)
        · refine x_iconst C (1) dX13_isWord_56 rfl ?_
          exact x_zretQ C (hQ _) rfl (Or.inr rfl) dX13_isWord_57
        · refine x_aload_n C 0 dX13_isWord_30 rfl rfl ?_
          refine x_aload_n C 0 dX13_isWord_31 rfl rfl ?_
          refine x_get (v := iV (σ 184 11)) C 11 cls_X13 at_X13 (by decide) wd1513 rfl rfl dX13_isWord_32 ?_
          refine x_iload_n C 2 dX13_isWord_35 rfl rfl ?_
          refine x_iadd C dX13_isWord_36 ?_
          refine x_callV C (ct_X13_byteAt _ _ ((σ 184 11) + t8) σ) mt_X13_byteAt vr_X13_byteAt wd1696 cls_X13 at_X13 rfl ⟨rfl, rfl, Nat.le_of_ble_eq_true rfl, Nat.le_of_ble_eq_true rfl⟩ rfl (by decide) dX13_isWord_37 (kI (fun v12 => ?_))
          refine x_aload_n C 1 dX13_isWord_40 rfl rfl ?_
          refine x_iload_n C 2 dX13_isWord_41 rfl rfl ?_
          refine x_callVs C (ct_J0_charAt_5068e _ _ k1 t8 hk1 σ) mt_J0_charAt_5068e vr_J0_charAt_5068e wd1728 hk1 rfl ⟨rfl, rfl, Nat.le_of_ble_eq_true rfl, Nat.le_of_ble_eq_true rfl⟩ rfl (Nat.le_of_ble_eq_true rfl) dX13_isWord_42 (kI (fun v13 => ?_))
          refine x_icmp_eq C 50 rfl rfl dX13_isWord_45 rfl (fun c14 => x_op c14 ?_) (fun c14 => x_on c14 ?_)
          · refine x_inc C 2 (f := _) dX13_isWord_50 rfl (by decide) (1) rfl (fun v15 => ?_)
            refine x_reL (L' := [(2, _), (0, _), (1, _)]) rfl ?_
            refine x_goto C 22 dX13_isWord_53 rfl ?_
            refine x_pick [1, 2, 0] rfl ?_
            exact hr10 v15
          · refine x_iconst C (0) dX13_isWord_48 rfl ?_
            exact x_zretQ C (hQ _) rfl (Or.inl rfl) dX13_isWord_49
      · refine x_pick [] rfl ?_
        exact hJ3 ()
theorem ct_X13_isWord (l : Launch) (E : xE) (n : Nat) (k1 : Nat) (σ : xS) (hk1 : k1 < 24)  : xMet l E yX13_isWord cX13_isWord 3 (some .boolean) { frames := 5, cells := 0, slots := 0, locals := 106 } [.ref (E.2.2 + 184), cRE E 1 k1] WW WW σ (xrI (m_X13_isWord n k1 σ) σ) := by
  refine xMet.of0 (by decide) (Nat.le_of_ble_eq_true rfl) rfl rfl (fun X hE C => ?_)
  subst hE
  exact xMap (fun v => (some (iV v), σ)) (wk_X13_isWord C (fun _ => rfl) hk1)
theorem mt_X13_isWord : xMth yX13_isWord cX13_isWord 3 (some .boolean) 1 := ⟨wd1716, wd164, ⟨by decide, by decide, rfl⟩⟩
theorem vr_X13_isWord : xVir yX13_isWord := ⟨wd1715, wd57⟩
def m_X13_takes (n : Nat) (k1 : Nat) (σ : xS) : Option (Int × xS) :=
  (m_X13_isWord n k1 σ).bind fun v1 => if (zI v1) = 0 then some (0, σ) else xlet (xput σ 184 11 ((σ 184 11) + (m_J0_length_8abf5 k1))) fun s3 => (m_X13_skips n s3).bind fun s4 => some (1, s4)
set_option maxHeartbeats 4000000 in
set_option maxRecDepth 100000 in
theorem wk_X13_takes {X : xX} {Qf : (Int × xS) → State → Prop} {n : Nat} {k1 : Nat} {σ : xS} (C : xCx X cX13_takes "BakeryNightModel" (some .boolean) { frames := 6, cells := 0, slots := 0, locals := 128 } 2) (hQ : ∀ v τ, Qf (v, τ) = xQf X WW (some (iV v), τ)) (hk1 : k1 < 24) : WO X Qf WW σ 0 [(0, .ref ((xXE X).2.2 + 184)), (1, cR X 1 k1)] [] (m_X13_takes n k1 σ) := by
  unfold m_X13_takes
  refine x_aload_n C 0 dX13_takes_0 rfl rfl ?_
  refine x_aload_n C 1 dX13_takes_1 rfl rfl ?_
  refine x_callV C (ct_X13_isWord _ _ n k1 σ hk1) mt_X13_isWord vr_X13_isWord wd1713 cls_X13 at_X13 rfl ⟨rfl, rfl, Nat.le_of_ble_eq_true rfl, Nat.le_of_ble_eq_true rfl⟩ rfl (by decide) dX13_takes_2 (kI (fun v1 => ?_))
  refine x_if_ne C 10 rfl dX13_takes_5 rfl (fun c2 => x_on c2 ?_) (fun c2 => x_op c2 ?_)
  · refine x_aload_n C 0 dX13_takes_10 rfl rfl ?_
    refine x_aload_n C 0 dX13_takes_11 rfl rfl ?_
    refine x_get (v := iV (σ 184 11)) C 11 cls_X13 at_X13 (by decide) wd1513 rfl rfl dX13_takes_12 ?_
    refine x_aload_n C 1 dX13_takes_15 rfl rfl ?_
    refine x_callVs C (ct_J0_length_8abf5 _ _ k1 hk1 σ) mt_J0_length_8abf5 vr_J0_length_8abf5 wd1727 hk1 rfl ⟨rfl, rfl, Nat.le_of_ble_eq_true rfl, Nat.le_of_ble_eq_true rfl⟩ rfl (Nat.le_of_ble_eq_true rfl) dX13_takes_16 (kP ?_)
    refine x_iadd C dX13_takes_19 ?_
    refine x_put C 11 ((σ 184 11) + (m_J0_length_8abf5 k1)) cls_X13 at_X13 (by decide) wd1513 rfl rfl rfl rfl (xV_pI rfl) dX13_takes_20 ?_
    refine x_letS (fun s3 => ?_)
    refine x_aload_n C 0 dX13_takes_23 rfl rfl ?_
    refine x_callV C (ct_X13_skips _ _ n s3) mt_X13_skips vr_X13_skips wd1688 cls_X13 at_X13 rfl ⟨rfl, rfl, Nat.le_of_ble_eq_true rfl, Nat.le_of_ble_eq_true rfl⟩ rfl (by decide) dX13_takes_24 (kV (fun s4 => ?_))
    refine x_iconst C (1) dX13_takes_27 rfl ?_
    exact x_zretQ C (hQ _ _) rfl (Or.inr rfl) dX13_takes_28
  · refine x_iconst C (0) dX13_takes_8 rfl ?_
    exact x_zretQ C (hQ _ _) rfl (Or.inl rfl) dX13_takes_9
theorem ct_X13_takes (l : Launch) (E : xE) (n : Nat) (k1 : Nat) (σ : xS) (hk1 : k1 < 24)  : xMet l E yX13_takes cX13_takes 2 (some .boolean) { frames := 6, cells := 0, slots := 0, locals := 128 } [.ref (E.2.2 + 184), cRE E 1 k1] WW WW σ (xrS (m_X13_takes n k1 σ)) := by
  refine xMet.of0 (by decide) (Nat.le_of_ble_eq_true rfl) rfl rfl (fun X hE C => ?_)
  subst hE
  exact xMap (fun q => (some (iV q.1), q.2)) (wk_X13_takes C (fun _ _ => rfl) hk1)
theorem mt_X13_takes : xMth yX13_takes cX13_takes 2 (some .boolean) 1 := ⟨wd1818, wd164, ⟨by decide, by decide, rfl⟩⟩
theorem vr_X13_takes : xVir yX13_takes := ⟨wd1817, wd75⟩
def m_X13_needs (n : Nat) (k1 : Nat) (σ : xS) : Option xS :=
  xj (fun (q5 : xS) => some q5) fun J3 => if (m_X13_fine σ) = 0 then J3 σ else xbS (m_X13_takes n k1 σ) fun v8 s7 => if (zI v8) = 0 then (m_X13_faulty 1 (s7 184 11) s7).bind fun s10 => J3 s10 else J3 s7
set_option maxHeartbeats 4000000 in
set_option maxRecDepth 100000 in
theorem wk_X13_needs {X : xX} {Qf : xS → State → Prop} {n : Nat} {k1 : Nat} {σ : xS} (C : xCx X cX13_needs "BakeryNightModel" none { frames := 7, cells := 0, slots := 0, locals := 149 } 2) (hQ : ∀ τ, Qf τ = xQf X WW (none, τ)) (hk1 : k1 < 24) : WO X Qf WW σ 0 [(0, .ref ((xXE X).2.2 + 184)), (1, cR X 1 k1)] [] (m_X13_needs n k1 σ) := by
  unfold m_X13_needs
  refine x_aload_n C 0 dX13_needs_0 rfl rfl ?_
  refine x_callV C (ct_X13_fine _ _ σ) mt_X13_fine vr_X13_fine wd1700 cls_X13 at_X13 rfl ⟨rfl, rfl, Nat.le_of_ble_eq_true rfl, Nat.le_of_ble_eq_true rfl⟩ rfl (by decide) dX13_needs_1 (kP ?_)
  refine x_join (fun J => ∀ q5 : xS, WO X Qf WW q5 24 [] [] (J q5)) ?_ ?_
  · intro q5
    exact x_vretQ C (hQ _) rfl dX13_needs_24
  · intro J3 hJ4
    refine x_if_eq C 24 (zI_bo (bo_X13_fine _)) dX13_needs_4 rfl (fun c6 => x_op c6 ?_) (fun c6 => x_on c6 ?_)
    · refine x_pick [] rfl ?_
      exact hJ4 σ
    · refine x_aload_n C 0 dX13_needs_7 rfl rfl ?_
      refine x_aload_n C 1 dX13_needs_8 rfl rfl ?_
      refine x_callV C (ct_X13_takes _ _ n k1 σ hk1) mt_X13_takes vr_X13_takes wd1815 cls_X13 at_X13 rfl ⟨rfl, rfl, Nat.le_of_ble_eq_true rfl, Nat.le_of_ble_eq_true rfl⟩ rfl (by decide) dX13_needs_9 (kS (fun v8 s7 => ?_))
      refine x_if_ne C 24 rfl dX13_needs_12 rfl (fun c9 => x_on c9 ?_) (fun c9 => x_op c9 ?_)
      · refine x_pick [] rfl ?_
        exact hJ4 s7
      · refine x_aload_n C 0 dX13_needs_15 rfl rfl ?_
        refine x_iconst C (1) dX13_needs_16 rfl ?_
        refine x_aload_n C 0 dX13_needs_17 rfl rfl ?_
        refine x_get (v := iV (s7 184 11)) C 11 cls_X13 at_X13 (by decide) wd1513 rfl rfl dX13_needs_18 ?_
        refine x_callV C (ct_X13_faulty _ _ 1 (s7 184 11) s7) mt_X13_faulty vr_X13_faulty wd1750 cls_X13 at_X13 rfl ⟨rfl, rfl, Nat.le_of_ble_eq_true rfl, Nat.le_of_ble_eq_true rfl⟩ rfl (by decide) dX13_needs_21 (kV (fun s10 => ?_))
        refine x_pick [] rfl ?_
        exact hJ4 s10
theorem ct_X13_needs (l : Launch) (E : xE) (n : Nat) (k1 : Nat) (σ : xS) (hk1 : k1 < 24)  : xMet l E yX13_needs cX13_needs 2 none { frames := 7, cells := 0, slots := 0, locals := 149 } [.ref (E.2.2 + 184), cRE E 1 k1] WW WW σ (xrV (m_X13_needs n k1 σ)) := by
  refine xMet.of0 (by decide) (Nat.le_of_ble_eq_true rfl) rfl rfl (fun X hE C => ?_)
  subst hE
  exact xMap (fun q => (none, q)) (wk_X13_needs C (fun _ => rfl) hk1)
theorem mt_X13_needs : xMth yX13_needs cX13_needs 2 none 1 := ⟨wd1814, wd164, ⟨by decide, by decide, rfl⟩⟩
theorem vr_X13_needs : xVir yX13_needs := ⟨wd1813, wd74⟩
def m_X13_isKeyword (n : Nat) (σ : xS) : Option Int :=
  (m_X13_isWord n 0 σ).bind fun v1 => xj (fun (q5 : Unit) => some 1) fun J3 => if (zI v1) = 0 then (m_X13_isWord n 1 σ).bind fun v7 => if (zI v7) = 0 then (m_X13_isWord n 2 σ).bind fun v9 => if (zI v9) = 0 then (m_X13_isWord n 3 σ).bind fun v11 => if (zI v11) = 0 then (m_X13_isWord n 4 σ).bind fun v13 => if (zI v13) = 0 then (m_X13_isWord n 5 σ).bind fun v15 => if (zI v15) = 0 then (m_X13_isWord n 6 σ).bind fun v17 => if (zI v17) = 0 then (m_X13_isWord n 7 σ).bind fun v19 => if (zI v19) = 0 then (m_X13_isWord n 8 σ).bind fun v21 => if (zI v21) = 0 then (m_X13_isWord n 9 σ).bind fun v23 => xj (fun (q27 : Unit) => some 1) fun J25 => if (zI v23) = 0 then (m_X13_isWord n 10 σ).bind fun v29 => if (zI v29) = 0 then (m_X13_isWord n 11 σ).bind fun v31 => if (zI v31) = 0 then (m_X13_isWord n 12 σ).bind fun v33 => if (zI v33) = 0 then (m_X13_isWord n 13 σ).bind fun v35 => if (zI v35) = 0 then (m_X13_isWord n 14 σ).bind fun v37 => if (zI v37) = 0 then (m_X13_isWord n 15 σ).bind fun v39 => if (zI v39) = 0 then (m_X13_isWord n 16 σ).bind fun v41 => if (zI v41) = 0 then (m_X13_isWord n 17 σ).bind fun v43 => if (zI v43) = 0 then (m_X13_isWord n 18 σ).bind fun v45 => xj (fun (q50 : Int) => xbo q50 (some q50)) fun J48 => xj (fun (q53 : Unit) => J48 1) fun J51 => if (zI v45) = 0 then (m_X13_isWord n 19 σ).bind fun v55 => if (zI v55) = 0 then (m_X13_isWord n 20 σ).bind fun v57 => if (zI v57) = 0 then (m_X13_isWord n 21 σ).bind fun v59 => if (zI v59) = 0 then (m_X13_isWord n 22 σ).bind fun v61 => if (zI v61) = 0 then (m_X13_isWord n 23 σ).bind fun v63 => if (zI v63) = 0 then J48 0 else J51 () else J51 () else J51 () else J51 () else J51 () else J51 () else J25 () else J25 () else J25 () else J25 () else J25 () else J25 () else J25 () else J25 () else J25 () else J3 () else J3 () else J3 () else J3 () else J3 () else J3 () else J3 () else J3 () else J3 ()
set_option maxHeartbeats 4000000 in
set_option maxRecDepth 100000 in
theorem wk_X13_isKeyword {X : xX} {Qf : Int → State → Prop} {n : Nat} {σ : xS} (C : xCx X cX13_isKeyword "BakeryNightModel" (some .boolean) { frames := 6, cells := 0, slots := 0, locals := 128 } 1) (hQ : ∀ v, Qf v = xQf X WW (some (iV v), σ))  : WO X Qf WW σ 0 [(0, .ref ((xXE X).2.2 + 184))] [] (m_X13_isKeyword n σ) := by
  unfold m_X13_isKeyword
  refine x_aload_n C 0 dX13_isKeyword_0 rfl rfl ?_
  refine x_ldcS C (i := 0) sr0 dX13_isKeyword_1 ?_
  refine x_callV C (ct_X13_isWord _ _ n 0 σ (by decide)) mt_X13_isWord vr_X13_isWord wd1713 cls_X13 at_X13 rfl ⟨rfl, rfl, Nat.le_of_ble_eq_true rfl, Nat.le_of_ble_eq_true rfl⟩ rfl (by decide) dX13_isKeyword_3 (kI (fun v1 => ?_))
  refine x_join (fun J => ∀ q5 : Unit, WO X Qf WW σ 81 [] [] (J q5)) ?_ ?_
  · intro q5
    refine x_iconst C (1) dX13_isKeyword_81 rfl ?_
    exact x_zretQ C (hQ _) rfl (Or.inr rfl) dX13_isKeyword_82
  · intro J3 hJ4
    refine x_if_ne C 81 rfl dX13_isKeyword_6 rfl (fun c6 => x_on c6 ?_) (fun c6 => x_op c6 ?_)
    · refine x_pick [] rfl ?_
      exact hJ4 ()
    · refine x_aload_n C 0 dX13_isKeyword_9 rfl rfl ?_
      refine x_ldcS C (i := 1) sr1 dX13_isKeyword_10 ?_
      refine x_callV C (ct_X13_isWord _ _ n 1 σ (by decide)) mt_X13_isWord vr_X13_isWord wd1713 cls_X13 at_X13 rfl ⟨rfl, rfl, Nat.le_of_ble_eq_true rfl, Nat.le_of_ble_eq_true rfl⟩ rfl (by decide) dX13_isKeyword_12 (kI (fun v7 => ?_))
      refine x_if_ne C 81 rfl dX13_isKeyword_15 rfl (fun c8 => x_on c8 ?_) (fun c8 => x_op c8 ?_)
      · refine x_pick [] rfl ?_
        exact hJ4 ()
      · refine x_aload_n C 0 dX13_isKeyword_18 rfl rfl ?_
        refine x_ldcS C (i := 2) sr2 dX13_isKeyword_19 ?_
        refine x_callV C (ct_X13_isWord _ _ n 2 σ (by decide)) mt_X13_isWord vr_X13_isWord wd1713 cls_X13 at_X13 rfl ⟨rfl, rfl, Nat.le_of_ble_eq_true rfl, Nat.le_of_ble_eq_true rfl⟩ rfl (by decide) dX13_isKeyword_21 (kI (fun v9 => ?_))
        refine x_if_ne C 81 rfl dX13_isKeyword_24 rfl (fun c10 => x_on c10 ?_) (fun c10 => x_op c10 ?_)
        · refine x_pick [] rfl ?_
          exact hJ4 ()
        · refine x_aload_n C 0 dX13_isKeyword_27 rfl rfl ?_
          refine x_ldcS C (i := 3) sr3 dX13_isKeyword_28 ?_
          refine x_callV C (ct_X13_isWord _ _ n 3 σ (by decide)) mt_X13_isWord vr_X13_isWord wd1713 cls_X13 at_X13 rfl ⟨rfl, rfl, Nat.le_of_ble_eq_true rfl, Nat.le_of_ble_eq_true rfl⟩ rfl (by decide) dX13_isKeyword_30 (kI (fun v11 => ?_))
          refine x_if_ne C 81 rfl dX13_isKeyword_33 rfl (fun c12 => x_on c12 ?_) (fun c12 => x_op c12 ?_)
          · refine x_pick [] rfl ?_
            exact hJ4 ()
          · refine x_aload_n C 0 dX13_isKeyword_36 rfl rfl ?_
            refine x_ldcS C (i := 4) sr4 dX13_isKeyword_37 ?_
            refine x_callV C (ct_X13_isWord _ _ n 4 σ (by decide)) mt_X13_isWord vr_X13_isWord wd1713 cls_X13 at_X13 rfl ⟨rfl, rfl, Nat.le_of_ble_eq_true rfl, Nat.le_of_ble_eq_true rfl⟩ rfl (by decide) dX13_isKeyword_39 (kI (fun v13 => ?_))
            refine x_if_ne C 81 rfl dX13_isKeyword_42 rfl (fun c14 => x_on c14 ?_) (fun c14 => x_op c14 ?_)
            · refine x_pick [] rfl ?_
              exact hJ4 ()
            · refine x_aload_n C 0 dX13_isKeyword_45 rfl rfl ?_
              refine x_ldcS C (i := 5) sr5 dX13_isKeyword_46 ?_
              refine x_callV C (ct_X13_isWord _ _ n 5 σ (by decide)) mt_X13_isWord vr_X13_isWord wd1713 cls_X13 at_X13 rfl ⟨rfl, rfl, Nat.le_of_ble_eq_true rfl, Nat.le_of_ble_eq_true rfl⟩ rfl (by decide) dX13_isKeyword_48 (kI (fun v15 => ?_))
              refine x_if_ne C 81 rfl dX13_isKeyword_51 rfl (fun c16 => x_on c16 ?_) (fun c16 => x_op c16 ?_)
              · refine x_pick [] rfl ?_
                exact hJ4 ()
              · refine x_aload_n C 0 dX13_isKeyword_54 rfl rfl ?_
                refine x_ldcS C (i := 6) sr6 dX13_isKeyword_55 ?_
                refine x_callV C (ct_X13_isWord _ _ n 6 σ (by decide)) mt_X13_isWord vr_X13_isWord wd1713 cls_X13 at_X13 rfl ⟨rfl, rfl, Nat.le_of_ble_eq_true rfl, Nat.le_of_ble_eq_true rfl⟩ rfl (by decide) dX13_isKeyword_57 (kI (fun v17 => ?_))
                refine x_if_ne C 81 rfl dX13_isKeyword_60 rfl (fun c18 => x_on c18 ?_) (fun c18 => x_op c18 ?_)
                · refine x_pick [] rfl ?_
                  exact hJ4 ()
                · refine x_aload_n C 0 dX13_isKeyword_63 rfl rfl ?_
                  refine x_ldcS C (i := 7) sr7 dX13_isKeyword_64 ?_
                  refine x_callV C (ct_X13_isWord _ _ n 7 σ (by decide)) mt_X13_isWord vr_X13_isWord wd1713 cls_X13 at_X13 rfl ⟨rfl, rfl, Nat.le_of_ble_eq_true rfl, Nat.le_of_ble_eq_true rfl⟩ rfl (by decide) dX13_isKeyword_66 (kI (fun v19 => ?_))
                  refine x_if_ne C 81 rfl dX13_isKeyword_69 rfl (fun c20 => x_on c20 ?_) (fun c20 => x_op c20 ?_)
                  · refine x_pick [] rfl ?_
                    exact hJ4 ()
                  · refine x_aload_n C 0 dX13_isKeyword_72 rfl rfl ?_
                    refine x_ldcS C (i := 8) sr8 dX13_isKeyword_73 ?_
                    refine x_callV C (ct_X13_isWord _ _ n 8 σ (by decide)) mt_X13_isWord vr_X13_isWord wd1713 cls_X13 at_X13 rfl ⟨rfl, rfl, Nat.le_of_ble_eq_true rfl, Nat.le_of_ble_eq_true rfl⟩ rfl (by decide) dX13_isKeyword_75 (kI (fun v21 => ?_))
                    refine x_if_eq C 83 rfl dX13_isKeyword_78 rfl (fun c22 => x_op c22 ?_) (fun c22 => x_on c22 ?_)
                    · refine x_aload_n C 0 dX13_isKeyword_83 rfl rfl ?_
                      refine x_ldcS C (i := 9) sr9 dX13_isKeyword_84 ?_
                      refine x_callV C (ct_X13_isWord _ _ n 9 σ (by decide)) mt_X13_isWord vr_X13_isWord wd1713 cls_X13 at_X13 rfl ⟨rfl, rfl, Nat.le_of_ble_eq_true rfl, Nat.le_of_ble_eq_true rfl⟩ rfl (by decide) dX13_isKeyword_86 (kI (fun v23 => ?_))
                      refine x_join (fun J => ∀ q27 : Unit, WO X Qf WW σ 164 [] [] (J q27)) ?_ ?_
                      · intro q27
                        refine x_iconst C (1) dX13_isKeyword_164 rfl ?_
                        exact x_zretQ C (hQ _) rfl (Or.inr rfl) dX13_isKeyword_165
                      · intro J25 hJ26
                        refine x_if_ne C 164 rfl dX13_isKeyword_89 rfl (fun c28 => x_on c28 ?_) (fun c28 => x_op c28 ?_)
                        · refine x_pick [] rfl ?_
                          exact hJ26 ()
                        · refine x_aload_n C 0 dX13_isKeyword_92 rfl rfl ?_
                          refine x_ldcS C (i := 10) sr10 dX13_isKeyword_93 ?_
                          refine x_callV C (ct_X13_isWord _ _ n 10 σ (by decide)) mt_X13_isWord vr_X13_isWord wd1713 cls_X13 at_X13 rfl ⟨rfl, rfl, Nat.le_of_ble_eq_true rfl, Nat.le_of_ble_eq_true rfl⟩ rfl (by decide) dX13_isKeyword_95 (kI (fun v29 => ?_))
                          refine x_if_ne C 164 rfl dX13_isKeyword_98 rfl (fun c30 => x_on c30 ?_) (fun c30 => x_op c30 ?_)
                          · refine x_pick [] rfl ?_
                            exact hJ26 ()
                          · refine x_aload_n C 0 dX13_isKeyword_101 rfl rfl ?_
                            refine x_ldcS C (i := 11) sr11 dX13_isKeyword_102 ?_
                            refine x_callV C (ct_X13_isWord _ _ n 11 σ (by decide)) mt_X13_isWord vr_X13_isWord wd1713 cls_X13 at_X13 rfl ⟨rfl, rfl, Nat.le_of_ble_eq_true rfl, Nat.le_of_ble_eq_true rfl⟩ rfl (by decide) dX13_isKeyword_104 (kI (fun v31 => ?_))
                            refine x_if_ne C 164 rfl dX13_isKeyword_107 rfl (fun c32 => x_on c32 ?_) (fun c32 => x_op c32 ?_)
                            · refine x_pick [] rfl ?_
                              exact hJ26 ()
                            · refine x_aload_n C 0 dX13_isKeyword_110 rfl rfl ?_
                              refine x_ldcS C (i := 12) sr12 dX13_isKeyword_111 ?_
                              refine x_callV C (ct_X13_isWord _ _ n 12 σ (by decide)) mt_X13_isWord vr_X13_isWord wd1713 cls_X13 at_X13 rfl ⟨rfl, rfl, Nat.le_of_ble_eq_true rfl, Nat.le_of_ble_eq_true rfl⟩ rfl (by decide) dX13_isKeyword_113 (kI (fun v33 => ?_))
                              refine x_if_ne C 164 rfl dX13_isKeyword_116 rfl (fun c34 => x_on c34 ?_) (fun c34 => x_op c34 ?_)
                              · refine x_pick [] rfl ?_
                                exact hJ26 ()
                              · refine x_aload_n C 0 dX13_isKeyword_119 rfl rfl ?_
                                refine x_ldcS C (i := 13) sr13 dX13_isKeyword_120 ?_
                                refine x_callV C (ct_X13_isWord _ _ n 13 σ (by decide)) mt_X13_isWord vr_X13_isWord wd1713 cls_X13 at_X13 rfl ⟨rfl, rfl, Nat.le_of_ble_eq_true rfl, Nat.le_of_ble_eq_true rfl⟩ rfl (by decide) dX13_isKeyword_122 (kI (fun v35 => ?_))
                                refine x_if_ne C 164 rfl dX13_isKeyword_125 rfl (fun c36 => x_on c36 ?_) (fun c36 => x_op c36 ?_)
                                · refine x_pick [] rfl ?_
                                  exact hJ26 ()
                                · refine x_aload_n C 0 dX13_isKeyword_128 rfl rfl ?_
                                  refine x_ldcS C (i := 14) sr14 dX13_isKeyword_129 ?_
                                  refine x_callV C (ct_X13_isWord _ _ n 14 σ (by decide)) mt_X13_isWord vr_X13_isWord wd1713 cls_X13 at_X13 rfl ⟨rfl, rfl, Nat.le_of_ble_eq_true rfl, Nat.le_of_ble_eq_true rfl⟩ rfl (by decide) dX13_isKeyword_131 (kI (fun v37 => ?_))
                                  refine x_if_ne C 164 rfl dX13_isKeyword_134 rfl (fun c38 => x_on c38 ?_) (fun c38 => x_op c38 ?_)
                                  · refine x_pick [] rfl ?_
                                    exact hJ26 ()
                                  · refine x_aload_n C 0 dX13_isKeyword_137 rfl rfl ?_
                                    refine x_ldcS C (i := 15) sr15 dX13_isKeyword_138 ?_
                                    refine x_callV C (ct_X13_isWord _ _ n 15 σ (by decide)) mt_X13_isWord vr_X13_isWord wd1713 cls_X13 at_X13 rfl ⟨rfl, rfl, Nat.le_of_ble_eq_true rfl, Nat.le_of_ble_eq_true rfl⟩ rfl (by decide) dX13_isKeyword_140 (kI (fun v39 => ?_))
                                    refine x_if_ne C 164 rfl dX13_isKeyword_143 rfl (fun c40 => x_on c40 ?_) (fun c40 => x_op c40 ?_)
                                    · refine x_pick [] rfl ?_
                                      exact hJ26 ()
                                    · refine x_aload_n C 0 dX13_isKeyword_146 rfl rfl ?_
                                      refine x_ldcS C (i := 16) sr16 dX13_isKeyword_147 ?_
                                      refine x_callV C (ct_X13_isWord _ _ n 16 σ (by decide)) mt_X13_isWord vr_X13_isWord wd1713 cls_X13 at_X13 rfl ⟨rfl, rfl, Nat.le_of_ble_eq_true rfl, Nat.le_of_ble_eq_true rfl⟩ rfl (by decide) dX13_isKeyword_149 (kI (fun v41 => ?_))
                                      refine x_if_ne C 164 rfl dX13_isKeyword_152 rfl (fun c42 => x_on c42 ?_) (fun c42 => x_op c42 ?_)
                                      · refine x_pick [] rfl ?_
                                        exact hJ26 ()
                                      · refine x_aload_n C 0 dX13_isKeyword_155 rfl rfl ?_
                                        refine x_ldcS C (i := 17) sr17 dX13_isKeyword_156 ?_
                                        refine x_callV C (ct_X13_isWord _ _ n 17 σ (by decide)) mt_X13_isWord vr_X13_isWord wd1713 cls_X13 at_X13 rfl ⟨rfl, rfl, Nat.le_of_ble_eq_true rfl, Nat.le_of_ble_eq_true rfl⟩ rfl (by decide) dX13_isKeyword_158 (kI (fun v43 => ?_))
                                        refine x_if_eq C 166 rfl dX13_isKeyword_161 rfl (fun c44 => x_op c44 ?_) (fun c44 => x_on c44 ?_)
                                        · refine x_aload_n C 0 dX13_isKeyword_166 rfl rfl ?_
                                          refine x_ldcS C (i := 18) sr18 dX13_isKeyword_167 ?_
                                          refine x_callV C (ct_X13_isWord _ _ n 18 σ (by decide)) mt_X13_isWord vr_X13_isWord wd1713 cls_X13 at_X13 rfl ⟨rfl, rfl, Nat.le_of_ble_eq_true rfl, Nat.le_of_ble_eq_true rfl⟩ rfl (by decide) dX13_isKeyword_169 (kI (fun v45 => ?_))
                                          refine x_join (fun J => ∀ q50 : Int, WO X Qf WW σ 225 [] [iV q50] (J q50)) ?_ ?_
                                          · intro q50
                                            exact x_bo (fun hb => x_zretQ C (hQ _) rfl hb dX13_isKeyword_225)
                                          · intro J48 hJ49
                                            refine x_join (fun J => ∀ q53 : Unit, WO X Qf WW σ 220 [] [] (J q53)) ?_ ?_
                                            · intro q53
                                              refine x_iconst C (1) dX13_isKeyword_220 rfl ?_
                                              refine x_goto C 225 dX13_isKeyword_221 rfl ?_
                                              refine x_pick [] rfl ?_
                                              exact hJ49 1
                                            · intro J51 hJ52
                                              refine x_if_ne C 220 rfl dX13_isKeyword_172 rfl (fun c54 => x_on c54 ?_) (fun c54 => x_op c54 ?_)
                                              · refine x_pick [] rfl ?_
                                                exact hJ52 ()
                                              · refine x_aload_n C 0 dX13_isKeyword_175 rfl rfl ?_
                                                refine x_ldcS C (i := 19) sr19 dX13_isKeyword_176 ?_
                                                refine x_callV C (ct_X13_isWord _ _ n 19 σ (by decide)) mt_X13_isWord vr_X13_isWord wd1713 cls_X13 at_X13 rfl ⟨rfl, rfl, Nat.le_of_ble_eq_true rfl, Nat.le_of_ble_eq_true rfl⟩ rfl (by decide) dX13_isKeyword_178 (kI (fun v55 => ?_))
                                                refine x_if_ne C 220 rfl dX13_isKeyword_181 rfl (fun c56 => x_on c56 ?_) (fun c56 => x_op c56 ?_)
                                                · refine x_pick [] rfl ?_
                                                  exact hJ52 ()
                                                · refine x_aload_n C 0 dX13_isKeyword_184 rfl rfl ?_
                                                  refine x_ldcS C (i := 20) sr20 dX13_isKeyword_185 ?_
                                                  refine x_callV C (ct_X13_isWord _ _ n 20 σ (by decide)) mt_X13_isWord vr_X13_isWord wd1713 cls_X13 at_X13 rfl ⟨rfl, rfl, Nat.le_of_ble_eq_true rfl, Nat.le_of_ble_eq_true rfl⟩ rfl (by decide) dX13_isKeyword_187 (kI (fun v57 => ?_))
                                                  refine x_if_ne C 220 rfl dX13_isKeyword_190 rfl (fun c58 => x_on c58 ?_) (fun c58 => x_op c58 ?_)
                                                  · refine x_pick [] rfl ?_
                                                    exact hJ52 ()
                                                  · refine x_aload_n C 0 dX13_isKeyword_193 rfl rfl ?_
                                                    refine x_ldcS C (i := 21) sr21 dX13_isKeyword_194 ?_
                                                    refine x_callV C (ct_X13_isWord _ _ n 21 σ (by decide)) mt_X13_isWord vr_X13_isWord wd1713 cls_X13 at_X13 rfl ⟨rfl, rfl, Nat.le_of_ble_eq_true rfl, Nat.le_of_ble_eq_true rfl⟩ rfl (by decide) dX13_isKeyword_196 (kI (fun v59 => ?_))
                                                    refine x_if_ne C 220 rfl dX13_isKeyword_199 rfl (fun c60 => x_on c60 ?_) (fun c60 => x_op c60 ?_)
                                                    · refine x_pick [] rfl ?_
                                                      exact hJ52 ()
                                                    · refine x_aload_n C 0 dX13_isKeyword_202 rfl rfl ?_
                                                      refine x_ldcS C (i := 22) sr22 dX13_isKeyword_203 ?_
                                                      refine x_callV C (ct_X13_isWord _ _ n 22 σ (by decide)) mt_X13_isWord vr_X13_isWord wd1713 cls_X13 at_X13 rfl ⟨rfl, rfl, Nat.le_of_ble_eq_true rfl, Nat.le_of_ble_eq_true rfl⟩ rfl (by decide) dX13_isKeyword_205 (kI (fun v61 => ?_))
                                                      refine x_if_ne C 220 rfl dX13_isKeyword_208 rfl (fun c62 => x_on c62 ?_) (fun c62 => x_op c62 ?_)
                                                      · refine x_pick [] rfl ?_
                                                        exact hJ52 ()
                                                      · refine x_aload_n C 0 dX13_isKeyword_211 rfl rfl ?_
                                                        refine x_ldcS C (i := 23) sr23 dX13_isKeyword_212 ?_
                                                        refine x_callV C (ct_X13_isWord _ _ n 23 σ (by decide)) mt_X13_isWord vr_X13_isWord wd1713 cls_X13 at_X13 rfl ⟨rfl, rfl, Nat.le_of_ble_eq_true rfl, Nat.le_of_ble_eq_true rfl⟩ rfl (by decide) dX13_isKeyword_214 (kI (fun v63 => ?_))
                                                        refine x_if_eq C 224 rfl dX13_isKeyword_217 rfl (fun c64 => x_op c64 ?_) (fun c64 => x_on c64 ?_)
                                                        · refine x_iconst C (0) dX13_isKeyword_224 rfl ?_
                                                          refine x_pick [] rfl ?_
                                                          exact hJ49 0
                                                        · refine x_pick [] rfl ?_
                                                          exact hJ52 ()
                                        · refine x_pick [] rfl ?_
                                          exact hJ26 ()
                    · refine x_pick [] rfl ?_
                      exact hJ4 ()
theorem ct_X13_isKeyword (l : Launch) (E : xE) (n : Nat) (σ : xS)   : xMet l E yX13_isKeyword cX13_isKeyword 1 (some .boolean) { frames := 6, cells := 0, slots := 0, locals := 128 } [.ref (E.2.2 + 184)] WW WW σ (xrI (m_X13_isKeyword n σ) σ) := by
  refine xMet.of0 (by decide) (Nat.le_of_ble_eq_true rfl) rfl rfl (fun X hE C => ?_)
  subst hE
  exact xMap (fun v => (some (iV v), σ)) (wk_X13_isKeyword C (fun _ => rfl) )
theorem mt_X13_isKeyword : xMth yX13_isKeyword cX13_isKeyword 1 (some .boolean) 0 := ⟨wd1787, wd164, ⟨by decide, by decide, rfl⟩⟩
theorem vr_X13_isKeyword : xVir yX13_isKeyword := ⟨wd1786, wd71⟩
def m_X13_name (n : Nat) (σ : xS) : Option (Int × xS) :=
  if (m_X13_fine σ) = 0 then some (0, σ) else xlet (xput σ 184 14 (σ 184 11)) fun s2 => (m_X13_wordLength n s2).bind fun v3 => xj (fun (q8 : xS) => if (m_X13_fine q8) = 0 then some (0, q8) else loopF (fun rec11 (t10 : Int × Int) => if (zI v3) ≤ (zI t10.2) then xlet (xput q8 184 11 ((q8 184 11) + v3)) fun s14 => (m_X13_skips n s14).bind fun s15 => some (t10.1, s15) else (m_X13_byteAt ((q8 184 11) + t10.2) q8).bind fun v16 => xlet ((((27 * t10.1) + (zI v16)) - 97) + 1) fun v17 => xlet (t10.2 + 1) fun v18 => rec11 (v17, v18)) n (0, 0)) fun J6 => xj (fun (q21 : Unit) => (m_X13_faulty 1 (s2 184 11) s2).bind fun s22 => J6 s22) fun J19 => if (zI v3) = 0 then J19 () else if 8 < (zI v3) then J19 () else (m_X13_isKeyword n s2).bind fun v25 => if (zI v25) = 0 then J6 s2 else J19 ()
set_option maxHeartbeats 4000000 in
set_option maxRecDepth 100000 in
theorem wk_X13_name {X : xX} {Qf : (Int × xS) → State → Prop} {n : Nat} {σ : xS} (C : xCx X cX13_name "BakeryNightModel" (some .long) { frames := 7, cells := 0, slots := 0, locals := 148 } 5) (hQ : ∀ v τ, Qf (v, τ) = xQf X WW (some (jV v), τ))  : WO X Qf WW σ 0 [(0, .ref ((xXE X).2.2 + 184))] [] (m_X13_name n σ) := by
  unfold m_X13_name
  refine x_aload_n C 0 dX13_name_0 rfl rfl ?_
  refine x_callV C (ct_X13_fine _ _ σ) mt_X13_fine vr_X13_fine wd1700 cls_X13 at_X13 rfl ⟨rfl, rfl, Nat.le_of_ble_eq_true rfl, Nat.le_of_ble_eq_true rfl⟩ rfl (by decide) dX13_name_1 (kP ?_)
  refine x_if_ne C 9 (zI_bo (bo_X13_fine _)) dX13_name_4 rfl (fun c1 => x_on c1 ?_) (fun c1 => x_op c1 ?_)
  · refine x_aload_n C 0 dX13_name_9 rfl rfl ?_
    refine x_aload_n C 0 dX13_name_10 rfl rfl ?_
    refine x_get (v := iV (σ 184 11)) C 11 cls_X13 at_X13 (by decide) wd1513 rfl rfl dX13_name_11 ?_
    refine x_put C 14 (σ 184 11) cls_X13 at_X13 (by decide) wd1516 rfl rfl rfl rfl (xV_pI rfl) dX13_name_14 ?_
    refine x_letS (fun s2 => ?_)
    refine x_aload_n C 0 dX13_name_17 rfl rfl ?_
    refine x_callV C (ct_X13_wordLength _ _ n s2) mt_X13_wordLength vr_X13_wordLength wd1717 cls_X13 at_X13 rfl ⟨rfl, rfl, Nat.le_of_ble_eq_true rfl, Nat.le_of_ble_eq_true rfl⟩ rfl (by decide) dX13_name_18 (kI (fun v3 => ?_))
    refine x_istore_n (L' := [(1, _), (0, _)]) C dX13_name_21 rfl (by decide) rfl ?_
    refine x_iload_n C 0 dX13_name_22 rfl rfl ?_
    refine x_join (fun J => ∀ q8 : xS, WO X Qf WW q8 48 [(0, .ref ((xXE X).2.2 + 184)), (1, iV v3)] [] (J q8)) ?_ ?_
    · intro q8
      refine x_aload_n C 0 dX13_name_48 rfl rfl ?_
      refine x_callV C (ct_X13_fine _ _ q8) mt_X13_fine vr_X13_fine wd1700 cls_X13 at_X13 rfl ⟨rfl, rfl, Nat.le_of_ble_eq_true rfl, Nat.le_of_ble_eq_true rfl⟩ rfl (by decide) dX13_name_49 (kP ?_)
      refine x_if_ne C 57 (zI_bo (bo_X13_fine _)) dX13_name_52 rfl (fun c9 => x_on c9 ?_) (fun c9 => x_op c9 ?_)
      · refine x_lconst C 0 dX13_name_57 rfl ?_
        refine x_lstore_n (L' := [(2, _), (0, _), (1, _)]) C dX13_name_58 rfl (by decide) rfl ?_
        refine x_iconst C (0) dX13_name_59 rfl ?_
        refine x_istore (L' := [(4, _), (2, _), (0, _), (1, _)]) C dX13_name_60 (by decide) rfl ?_
        refine x_pick [2, 3, 1, 0] rfl ?_
        refine x_loop (fun t10 : Int × Int => q8) (fun t10 : Int × Int => [(0, .ref ((xXE X).2.2 + 184)), (1, iV v3), (2, jV t10.1), (4, iV t10.2)]) (fun rec11 hr12 t10 => ?_) n (0, 0)
        refine x_iload C 3 dX13_name_62 rfl ?_
        refine x_iload_n C 1 dX13_name_64 rfl rfl ?_
        refine x_icmp_ge C 99 rfl rfl dX13_name_65 rfl (fun c13 => x_op c13 ?_) (fun c13 => x_on c13 ?_)
        · refine x_aload_n C 0 dX13_name_99 rfl rfl ?_
          refine x_aload_n C 0 dX13_name_100 rfl rfl ?_
          refine x_get (v := iV (q8 184 11)) C 11 cls_X13 at_X13 (by decide) wd1513 rfl rfl dX13_name_101 ?_
          refine x_iload_n C 1 dX13_name_104 rfl rfl ?_
          refine x_iadd C dX13_name_105 ?_
          refine x_put C 11 ((q8 184 11) + v3) cls_X13 at_X13 (by decide) wd1513 rfl rfl rfl rfl (xV_pI rfl) dX13_name_106 ?_
          refine x_letS (fun s14 => ?_)
          refine x_aload_n C 0 dX13_name_109 rfl rfl ?_
          refine x_callV C (ct_X13_skips _ _ n s14) mt_X13_skips vr_X13_skips wd1688 cls_X13 at_X13 rfl ⟨rfl, rfl, Nat.le_of_ble_eq_true rfl, Nat.le_of_ble_eq_true rfl⟩ rfl (by decide) dX13_name_110 (kV (fun s15 => ?_))
          refine x_lload_n C 2 dX13_name_113 rfl rfl ?_
          exact x_lretQ C (hQ _ _) rfl dX13_name_114
        · refine x_ldc2 C (27) wd1802 rfl dX13_name_68 ?_
          refine x_lload_n C 2 dX13_name_71 rfl rfl ?_
          refine x_lmul C dX13_name_72 ?_
          refine x_aload_n C 0 dX13_name_73 rfl rfl ?_
          refine x_aload_n C 0 dX13_name_74 rfl rfl ?_
          refine x_get (v := iV (q8 184 11)) C 11 cls_X13 at_X13 (by decide) wd1513 rfl rfl dX13_name_75 ?_
          refine x_iload C 3 dX13_name_78 rfl ?_
          refine x_iadd C dX13_name_80 ?_
          refine x_callV C (ct_X13_byteAt _ _ ((q8 184 11) + t10.2) q8) mt_X13_byteAt vr_X13_byteAt wd1696 cls_X13 at_X13 rfl ⟨rfl, rfl, Nat.le_of_ble_eq_true rfl, Nat.le_of_ble_eq_true rfl⟩ rfl (Nat.le_of_ble_eq_true rfl) dX13_name_81 (kI (fun v16 => ?_))
          refine x_i2l C dX13_name_84 ?_
          refine x_ladd C dX13_name_85 ?_
          refine x_ldc2 C (97) wd1725 rfl dX13_name_86 ?_
          refine x_lsub C dX13_name_89 ?_
          refine x_lconst C 1 dX13_name_90 rfl ?_
          refine x_ladd C dX13_name_91 ?_
          refine x_letL (fun v17 => ?_)
          refine x_lstore_n (L' := [(2, _), (0, _), (1, _), (4, _)]) C dX13_name_92 rfl (by decide) rfl ?_
          refine x_inc C 3 (f := _) dX13_name_93 rfl (by decide) (1) rfl (fun v18 => ?_)
          refine x_reL (L' := [(4, _), (2, _), (0, _), (1, _)]) rfl ?_
          refine x_goto C 62 dX13_name_96 rfl ?_
          refine x_pick [2, 3, 1, 0] rfl ?_
          exact hr12 (v17, v18)
      · refine x_lconst C 0 dX13_name_55 rfl ?_
        exact x_lretQ C (hQ _ _) rfl dX13_name_56
    · intro J6 hJ7
      refine x_join (fun J => ∀ q21 : Unit, WO X Qf WW s2 39 [(0, .ref ((xXE X).2.2 + 184)), (1, iV v3)] [] (J q21)) ?_ ?_
      · intro q21
        refine x_aload_n C 0 dX13_name_39 rfl rfl ?_
        refine x_iconst C (1) dX13_name_40 rfl ?_
        refine x_aload_n C 0 dX13_name_41 rfl rfl ?_
        refine x_get (v := iV (s2 184 11)) C 11 cls_X13 at_X13 (by decide) wd1513 rfl rfl dX13_name_42 ?_
        refine x_callV C (ct_X13_faulty _ _ 1 (s2 184 11) s2) mt_X13_faulty vr_X13_faulty wd1750 cls_X13 at_X13 rfl ⟨rfl, rfl, Nat.le_of_ble_eq_true rfl, Nat.le_of_ble_eq_true rfl⟩ rfl (by decide) dX13_name_45 (kV (fun s22 => ?_))
        refine x_pick [0, 1] rfl ?_
        exact hJ7 s22
      · intro J19 hJ20
        refine x_if_eq C 39 rfl dX13_name_23 rfl (fun c23 => x_op c23 ?_) (fun c23 => x_on c23 ?_)
        · refine x_pick [1, 0] rfl ?_
          exact hJ20 ()
        · refine x_iload_n C 0 dX13_name_26 rfl rfl ?_
          refine x_bipush C (8) dX13_name_27 rfl ?_
          refine x_icmp_gt C 39 rfl (zIl _ rfl) dX13_name_29 rfl (fun c24 => x_op c24 ?_) (fun c24 => x_on c24 ?_)
          · refine x_pick [1, 0] rfl ?_
            exact hJ20 ()
          · refine x_aload_n C 1 dX13_name_32 rfl rfl ?_
            refine x_callV C (ct_X13_isKeyword _ _ n s2) mt_X13_isKeyword vr_X13_isKeyword wd1784 cls_X13 at_X13 rfl ⟨rfl, rfl, Nat.le_of_ble_eq_true rfl, Nat.le_of_ble_eq_true rfl⟩ rfl (by decide) dX13_name_33 (kI (fun v25 => ?_))
            refine x_if_eq C 48 rfl dX13_name_36 rfl (fun c26 => x_op c26 ?_) (fun c26 => x_on c26 ?_)
            · refine x_pick [1, 0] rfl ?_
              exact hJ7 s2
            · refine x_pick [1, 0] rfl ?_
              exact hJ20 ()
  · refine x_lconst C 0 dX13_name_7 rfl ?_
    exact x_lretQ C (hQ _ _) rfl dX13_name_8
theorem ct_X13_name (l : Launch) (E : xE) (n : Nat) (σ : xS)   : xMet l E yX13_name cX13_name 5 (some .long) { frames := 7, cells := 0, slots := 0, locals := 148 } [.ref (E.2.2 + 184)] WW WW σ (xrT (m_X13_name n σ)) := by
  refine xMet.of0 (by decide) (Nat.le_of_ble_eq_true rfl) rfl rfl (fun X hE C => ?_)
  subst hE
  exact xMap (fun q => (some (jV q.1), q.2)) (wk_X13_name C (fun _ _ => rfl) )
theorem mt_X13_name : xMth yX13_name cX13_name 5 (some .long) 0 := ⟨wd1783, wd164, ⟨by decide, by decide, rfl⟩⟩
theorem vr_X13_name : xVir yX13_name := ⟨wd1782, wd70⟩
def m_X13_fresh (n : Nat) (k1 z1 : Nat) (p2 : Int) (σ : xS) : Option (Int × xS) :=
  xbS (m_X13_name n σ) fun v2 s1 => xj (fun (q6 : xS) => some (v2, q6)) fun J4 => if (m_X13_fine s1) = 0 then J4 s1 else (m_X13_placeOf n k1 z1 p2 v2 s1).bind fun v8 => if (zI v8) = (-1) then J4 s1 else (m_X13_faulty 3 (s1 184 14) s1).bind fun s10 => J4 s10
set_option maxHeartbeats 4000000 in
set_option maxRecDepth 100000 in
theorem wk_X13_fresh {X : xX} {Qf : (Int × xS) → State → Prop} {n : Nat} {k1 z1 : Nat} {p2 : Int} {σ : xS} (C : xCx X cX13_fresh "BakeryNightModel" (some .long) { frames := 8, cells := 0, slots := 0, locals := 172 } 5) (hQ : ∀ v τ, Qf (v, τ) = xQf X WW (some (jV v), τ)) (hk1 : xAt WW k1 1 z1) : WO X Qf WW σ 0 [(0, .ref ((xXE X).2.2 + 184)), (1, .ref ((xXE X).2.2 + k1)), (2, iV p2)] [] (m_X13_fresh n k1 z1 p2 σ) := by
  unfold m_X13_fresh
  refine x_aload_n C 0 dX13_fresh_0 rfl rfl ?_
  refine x_callV C (ct_X13_name _ _ n σ) mt_X13_name vr_X13_name wd1780 cls_X13 at_X13 rfl ⟨rfl, rfl, Nat.le_of_ble_eq_true rfl, Nat.le_of_ble_eq_true rfl⟩ rfl (by decide) dX13_fresh_1 (kT (fun v2 s1 => ?_))
  refine x_lstore_n (L' := [(3, _), (0, _), (1, _), (2, _)]) C dX13_fresh_4 rfl (by decide) rfl ?_
  refine x_aload_n C 1 dX13_fresh_5 rfl rfl ?_
  refine x_callV C (ct_X13_fine _ _ s1) mt_X13_fine vr_X13_fine wd1700 cls_X13 at_X13 rfl ⟨rfl, rfl, Nat.le_of_ble_eq_true rfl, Nat.le_of_ble_eq_true rfl⟩ rfl (by decide) dX13_fresh_6 (kP ?_)
  refine x_join (fun J => ∀ q6 : xS, WO X Qf WW q6 32 [(3, jV v2)] [] (J q6)) ?_ ?_
  · intro q6
    refine x_lload_n C 0 dX13_fresh_32 rfl rfl ?_
    exact x_lretQ C (hQ _ _) rfl dX13_fresh_33
  · intro J4 hJ5
    refine x_if_eq C 32 (zI_bo (bo_X13_fine _)) dX13_fresh_9 rfl (fun c7 => x_op c7 ?_) (fun c7 => x_on c7 ?_)
    · refine x_pick [0] rfl ?_
      exact hJ5 s1
    · refine x_aload_n C 1 dX13_fresh_12 rfl rfl ?_
      refine x_aload_n C 2 dX13_fresh_13 rfl rfl ?_
      refine x_iload_n C 3 dX13_fresh_14 rfl rfl ?_
      refine x_lload_n C 0 dX13_fresh_15 rfl rfl ?_
      refine x_callV C (ct_X13_placeOf _ _ n k1 z1 p2 v2 s1 hk1) mt_X13_placeOf vr_X13_placeOf wd1803 cls_X13 at_X13 rfl ⟨rfl, rfl, Nat.le_of_ble_eq_true rfl, Nat.le_of_ble_eq_true rfl⟩ rfl (by decide) dX13_fresh_16 (kI (fun v8 => ?_))
      refine x_iconst C (-1) dX13_fresh_19 rfl ?_
      refine x_icmp_eq C 32 rfl (zIl _ rfl) dX13_fresh_20 rfl (fun c9 => x_op c9 ?_) (fun c9 => x_on c9 ?_)
      · refine x_pick [0] rfl ?_
        exact hJ5 s1
      · refine x_aload_n C 1 dX13_fresh_23 rfl rfl ?_
        refine x_iconst C (3) dX13_fresh_24 rfl ?_
        refine x_aload_n C 1 dX13_fresh_25 rfl rfl ?_
        refine x_get (v := iV (s1 184 14)) C 14 cls_X13 at_X13 (by decide) wd1516 rfl rfl dX13_fresh_26 ?_
        refine x_callV C (ct_X13_faulty _ _ 3 (s1 184 14) s1) mt_X13_faulty vr_X13_faulty wd1750 cls_X13 at_X13 rfl ⟨rfl, rfl, Nat.le_of_ble_eq_true rfl, Nat.le_of_ble_eq_true rfl⟩ rfl (by decide) dX13_fresh_29 (kV (fun s10 => ?_))
        refine x_pick [0] rfl ?_
        exact hJ5 s10
theorem ct_X13_fresh (l : Launch) (E : xE) (n : Nat) (k1 z1 : Nat) (p2 : Int) (σ : xS) (hk1 : xAt WW k1 1 z1)  : xMet l E yX13_fresh cX13_fresh 5 (some .long) { frames := 8, cells := 0, slots := 0, locals := 172 } [.ref (E.2.2 + 184), .ref (E.2.2 + k1), iV p2] WW WW σ (xrT (m_X13_fresh n k1 z1 p2 σ)) := by
  refine xMet.of0 (by decide) (Nat.le_of_ble_eq_true rfl) rfl rfl (fun X hE C => ?_)
  subst hE
  exact xMap (fun q => (some (jV q.1), q.2)) (wk_X13_fresh C (fun _ _ => rfl) hk1)
theorem mt_X13_fresh : xMth yX13_fresh cX13_fresh 5 (some .long) 2 := ⟨wd1779, wd164, ⟨by decide, by decide, rfl⟩⟩
theorem vr_X13_fresh : xVir yX13_fresh := ⟨wd1778, wd69⟩
def m_X13_known (n : Nat) (k1 z1 : Nat) (p2 : Int) (σ : xS) : Option (Int × xS) :=
  xbS (m_X13_name n σ) fun v2 s1 => if (m_X13_fine s1) = 0 then some (0, s1) else (m_X13_placeOf n k1 z1 p2 v2 s1).bind fun v4 => xj (fun (q8 : xS) => some (m_X13_greater v4 0, q8)) fun J6 => if (zI v4) = (-1) then (m_X13_faulty 4 (s1 184 14) s1).bind fun s10 => J6 s10 else J6 s1
set_option maxHeartbeats 4000000 in
set_option maxRecDepth 100000 in
theorem wk_X13_known {X : xX} {Qf : (Int × xS) → State → Prop} {n : Nat} {k1 z1 : Nat} {p2 : Int} {σ : xS} (C : xCx X cX13_known "BakeryNightModel" (some .int) { frames := 8, cells := 0, slots := 0, locals := 172 } 6) (hQ : ∀ v τ, Qf (v, τ) = xQf X WW (some (iV v), τ)) (hk1 : xAt WW k1 1 z1) : WO X Qf WW σ 0 [(0, .ref ((xXE X).2.2 + 184)), (1, .ref ((xXE X).2.2 + k1)), (2, iV p2)] [] (m_X13_known n k1 z1 p2 σ) := by
  unfold m_X13_known
  refine x_aload_n C 0 dX13_known_0 rfl rfl ?_
  refine x_callV C (ct_X13_name _ _ n σ) mt_X13_name vr_X13_name wd1780 cls_X13 at_X13 rfl ⟨rfl, rfl, Nat.le_of_ble_eq_true rfl, Nat.le_of_ble_eq_true rfl⟩ rfl (by decide) dX13_known_1 (kT (fun v2 s1 => ?_))
  refine x_lstore_n (L' := [(3, _), (0, _), (1, _), (2, _)]) C dX13_known_4 rfl (by decide) rfl ?_
  refine x_aload_n C 1 dX13_known_5 rfl rfl ?_
  refine x_callV C (ct_X13_fine _ _ s1) mt_X13_fine vr_X13_fine wd1700 cls_X13 at_X13 rfl ⟨rfl, rfl, Nat.le_of_ble_eq_true rfl, Nat.le_of_ble_eq_true rfl⟩ rfl (by decide) dX13_known_6 (kP ?_)
  refine x_if_ne C 14 (zI_bo (bo_X13_fine _)) dX13_known_9 rfl (fun c3 => x_on c3 ?_) (fun c3 => x_op c3 ?_)
  · refine x_aload_n C 1 dX13_known_14 rfl rfl ?_
    refine x_aload_n C 2 dX13_known_15 rfl rfl ?_
    refine x_iload_n C 3 dX13_known_16 rfl rfl ?_
    refine x_lload_n C 0 dX13_known_17 rfl rfl ?_
    refine x_callV C (ct_X13_placeOf _ _ n k1 z1 p2 v2 s1 hk1) mt_X13_placeOf vr_X13_placeOf wd1803 cls_X13 at_X13 rfl ⟨rfl, rfl, Nat.le_of_ble_eq_true rfl, Nat.le_of_ble_eq_true rfl⟩ rfl (by decide) dX13_known_18 (kI (fun v4 => ?_))
    refine x_istore (L' := [(5, _), (3, _), (0, _), (1, _), (2, _)]) C dX13_known_21 (by decide) rfl ?_
    refine x_iload C 0 dX13_known_23 rfl ?_
    refine x_iconst C (-1) dX13_known_25 rfl ?_
    refine x_join (fun J => ∀ q8 : xS, WO X Qf WW q8 38 [(0, .ref ((xXE X).2.2 + 184)), (5, iV v4)] [] (J q8)) ?_ ?_
    · intro q8
      refine x_aload_n C 0 dX13_known_38 rfl rfl ?_
      refine x_iload C 1 dX13_known_39 rfl ?_
      refine x_iconst C (0) dX13_known_41 rfl ?_
      refine x_callV C (ct_X13_greater _ _ v4 0 q8) mt_X13_greater vr_X13_greater wd1835 cls_X13 at_X13 rfl ⟨rfl, rfl, Nat.le_of_ble_eq_true rfl, Nat.le_of_ble_eq_true rfl⟩ rfl (by decide) dX13_known_42 (kP ?_)
      exact x_iretQ C (hQ _ _) rfl dX13_known_45
    · intro J6 hJ7
      refine x_icmp_ne C 38 rfl (zIl _ rfl) dX13_known_26 rfl (fun c9 => x_on c9 ?_) (fun c9 => x_op c9 ?_)
      · refine x_pick [2, 0] rfl ?_
        exact hJ7 s1
      · refine x_aload_n C 2 dX13_known_29 rfl rfl ?_
        refine x_iconst C (4) dX13_known_30 rfl ?_
        refine x_aload_n C 2 dX13_known_31 rfl rfl ?_
        refine x_get (v := iV (s1 184 14)) C 14 cls_X13 at_X13 (by decide) wd1516 rfl rfl dX13_known_32 ?_
        refine x_callV C (ct_X13_faulty _ _ 4 (s1 184 14) s1) mt_X13_faulty vr_X13_faulty wd1750 cls_X13 at_X13 rfl ⟨rfl, rfl, Nat.le_of_ble_eq_true rfl, Nat.le_of_ble_eq_true rfl⟩ rfl (by decide) dX13_known_35 (kV (fun s10 => ?_))
        refine x_pick [2, 0] rfl ?_
        exact hJ7 s10
  · refine x_iconst C (0) dX13_known_12 rfl ?_
    exact x_iretQ C (hQ _ _) rfl dX13_known_13
theorem ct_X13_known (l : Launch) (E : xE) (n : Nat) (k1 z1 : Nat) (p2 : Int) (σ : xS) (hk1 : xAt WW k1 1 z1)  : xMet l E yX13_known cX13_known 6 (some .int) { frames := 8, cells := 0, slots := 0, locals := 172 } [.ref (E.2.2 + 184), .ref (E.2.2 + k1), iV p2] WW WW σ (xrS (m_X13_known n k1 z1 p2 σ)) := by
  refine xMet.of0 (by decide) (Nat.le_of_ble_eq_true rfl) rfl rfl (fun X hE C => ?_)
  subst hE
  exact xMap (fun q => (some (iV q.1), q.2)) (wk_X13_known C (fun _ _ => rfl) hk1)
theorem mt_X13_known : xMth yX13_known cX13_known 6 (some .int) 2 := ⟨wd1834, wd164, ⟨by decide, by decide, rfl⟩⟩
theorem vr_X13_known : xVir yX13_known := ⟨wd1833, wd79⟩
def m_X13_singleHere (n : Nat) (σ : xS) : Option Int :=
  (m_X13_isWord n 0 σ).bind fun v1 => xj (fun (q5 : Int) => some q5) fun J3 => if (zI v1) = 0 then (m_X13_isWord n 1 σ).bind fun v7 => if (zI v7) = 0 then (m_X13_isWord n 2 σ).bind fun v9 => if (zI v9) = 0 then (m_X13_isWord n 3 σ).bind fun v11 => if (zI v11) = 0 then J3 (-1) else J3 3 else J3 2 else J3 1 else J3 0
set_option maxHeartbeats 4000000 in
set_option maxRecDepth 100000 in
theorem wk_X13_singleHere {X : xX} {Qf : Int → State → Prop} {n : Nat} {σ : xS} (C : xCx X cX13_singleHere "BakeryNightModel" (some .int) { frames := 6, cells := 0, slots := 0, locals := 128 } 1) (hQ : ∀ v, Qf v = xQf X WW (some (iV v), σ))  : WO X Qf WW σ 0 [(0, .ref ((xXE X).2.2 + 184))] [] (m_X13_singleHere n σ) := by
  unfold m_X13_singleHere
  refine x_aload_n C 0 dX13_singleHere_0 rfl rfl ?_
  refine x_ldcS C (i := 0) sr0 dX13_singleHere_1 ?_
  refine x_callV C (ct_X13_isWord _ _ n 0 σ (by decide)) mt_X13_isWord vr_X13_isWord wd1713 cls_X13 at_X13 rfl ⟨rfl, rfl, Nat.le_of_ble_eq_true rfl, Nat.le_of_ble_eq_true rfl⟩ rfl (by decide) dX13_singleHere_3 (kI (fun v1 => ?_))
  refine x_join (fun J => ∀ q5 : Int, WO X Qf WW σ 53 [] [iV q5] (J q5)) ?_ ?_
  · intro q5
    exact x_iretQ C (hQ _) rfl dX13_singleHere_53
  · intro J3 hJ4
    refine x_if_eq C 13 rfl dX13_singleHere_6 rfl (fun c6 => x_op c6 ?_) (fun c6 => x_on c6 ?_)
    · refine x_aload_n C 0 dX13_singleHere_13 rfl rfl ?_
      refine x_ldcS C (i := 1) sr1 dX13_singleHere_14 ?_
      refine x_callV C (ct_X13_isWord _ _ n 1 σ (by decide)) mt_X13_isWord vr_X13_isWord wd1713 cls_X13 at_X13 rfl ⟨rfl, rfl, Nat.le_of_ble_eq_true rfl, Nat.le_of_ble_eq_true rfl⟩ rfl (by decide) dX13_singleHere_16 (kI (fun v7 => ?_))
      refine x_if_eq C 26 rfl dX13_singleHere_19 rfl (fun c8 => x_op c8 ?_) (fun c8 => x_on c8 ?_)
      · refine x_aload_n C 0 dX13_singleHere_26 rfl rfl ?_
        refine x_ldcS C (i := 2) sr2 dX13_singleHere_27 ?_
        refine x_callV C (ct_X13_isWord _ _ n 2 σ (by decide)) mt_X13_isWord vr_X13_isWord wd1713 cls_X13 at_X13 rfl ⟨rfl, rfl, Nat.le_of_ble_eq_true rfl, Nat.le_of_ble_eq_true rfl⟩ rfl (by decide) dX13_singleHere_29 (kI (fun v9 => ?_))
        refine x_if_eq C 39 rfl dX13_singleHere_32 rfl (fun c10 => x_op c10 ?_) (fun c10 => x_on c10 ?_)
        · refine x_aload_n C 0 dX13_singleHere_39 rfl rfl ?_
          refine x_ldcS C (i := 3) sr3 dX13_singleHere_40 ?_
          refine x_callV C (ct_X13_isWord _ _ n 3 σ (by decide)) mt_X13_isWord vr_X13_isWord wd1713 cls_X13 at_X13 rfl ⟨rfl, rfl, Nat.le_of_ble_eq_true rfl, Nat.le_of_ble_eq_true rfl⟩ rfl (by decide) dX13_singleHere_42 (kI (fun v11 => ?_))
          refine x_if_eq C 52 rfl dX13_singleHere_45 rfl (fun c12 => x_op c12 ?_) (fun c12 => x_on c12 ?_)
          · refine x_iconst C (-1) dX13_singleHere_52 rfl ?_
            refine x_pick [] rfl ?_
            exact hJ4 (-1)
          · refine x_iconst C (3) dX13_singleHere_48 rfl ?_
            refine x_goto C 53 dX13_singleHere_49 rfl ?_
            refine x_pick [] rfl ?_
            exact hJ4 3
        · refine x_iconst C (2) dX13_singleHere_35 rfl ?_
          refine x_goto C 53 dX13_singleHere_36 rfl ?_
          refine x_pick [] rfl ?_
          exact hJ4 2
      · refine x_iconst C (1) dX13_singleHere_22 rfl ?_
        refine x_goto C 53 dX13_singleHere_23 rfl ?_
        refine x_pick [] rfl ?_
        exact hJ4 1
    · refine x_iconst C (0) dX13_singleHere_9 rfl ?_
      refine x_goto C 53 dX13_singleHere_10 rfl ?_
      refine x_pick [] rfl ?_
      exact hJ4 0
theorem ct_X13_singleHere (l : Launch) (E : xE) (n : Nat) (σ : xS)   : xMet l E yX13_singleHere cX13_singleHere 1 (some .int) { frames := 6, cells := 0, slots := 0, locals := 128 } [.ref (E.2.2 + 184)] WW WW σ (xrI (m_X13_singleHere n σ) σ) := by
  refine xMet.of0 (by decide) (Nat.le_of_ble_eq_true rfl) rfl rfl (fun X hE C => ?_)
  subst hE
  exact xMap (fun v => (some (iV v), σ)) (wk_X13_singleHere C (fun _ => rfl) )
theorem mt_X13_singleHere : xMth yX13_singleHere cX13_singleHere 1 (some .int) 0 := ⟨wd1711, wd164, ⟨by decide, by decide, rfl⟩⟩
theorem vr_X13_singleHere : xVir yX13_singleHere := ⟨wd1710, wd56⟩
def m_X13_manyHere (n : Nat) (σ : xS) : Option Int :=
  (m_X13_isWord n 4 σ).bind fun v1 => xj (fun (q5 : Int) => some q5) fun J3 => if (zI v1) = 0 then (m_X13_isWord n 15 σ).bind fun v7 => if (zI v7) = 0 then (m_X13_isWord n 18 σ).bind fun v9 => if (zI v9) = 0 then (m_X13_isWord n 19 σ).bind fun v11 => if (zI v11) = 0 then (m_X13_isWord n 20 σ).bind fun v13 => if (zI v13) = 0 then (m_X13_isWord n 21 σ).bind fun v15 => if (zI v15) = 0 then J3 (-1) else J3 9 else J3 8 else J3 7 else J3 6 else J3 5 else J3 4
set_option maxHeartbeats 4000000 in
set_option maxRecDepth 100000 in
theorem wk_X13_manyHere {X : xX} {Qf : Int → State → Prop} {n : Nat} {σ : xS} (C : xCx X cX13_manyHere "BakeryNightModel" (some .int) { frames := 6, cells := 0, slots := 0, locals := 128 } 1) (hQ : ∀ v, Qf v = xQf X WW (some (iV v), σ))  : WO X Qf WW σ 0 [(0, .ref ((xXE X).2.2 + 184))] [] (m_X13_manyHere n σ) := by
  unfold m_X13_manyHere
  refine x_aload_n C 0 dX13_manyHere_0 rfl rfl ?_
  refine x_ldcS C (i := 4) sr4 dX13_manyHere_1 ?_
  refine x_callV C (ct_X13_isWord _ _ n 4 σ (by decide)) mt_X13_isWord vr_X13_isWord wd1713 cls_X13 at_X13 rfl ⟨rfl, rfl, Nat.le_of_ble_eq_true rfl, Nat.le_of_ble_eq_true rfl⟩ rfl (by decide) dX13_manyHere_3 (kI (fun v1 => ?_))
  refine x_join (fun J => ∀ q5 : Int, WO X Qf WW σ 83 [] [iV q5] (J q5)) ?_ ?_
  · intro q5
    exact x_iretQ C (hQ _) rfl dX13_manyHere_83
  · intro J3 hJ4
    refine x_if_eq C 13 rfl dX13_manyHere_6 rfl (fun c6 => x_op c6 ?_) (fun c6 => x_on c6 ?_)
    · refine x_aload_n C 0 dX13_manyHere_13 rfl rfl ?_
      refine x_ldcS C (i := 15) sr15 dX13_manyHere_14 ?_
      refine x_callV C (ct_X13_isWord _ _ n 15 σ (by decide)) mt_X13_isWord vr_X13_isWord wd1713 cls_X13 at_X13 rfl ⟨rfl, rfl, Nat.le_of_ble_eq_true rfl, Nat.le_of_ble_eq_true rfl⟩ rfl (by decide) dX13_manyHere_16 (kI (fun v7 => ?_))
      refine x_if_eq C 26 rfl dX13_manyHere_19 rfl (fun c8 => x_op c8 ?_) (fun c8 => x_on c8 ?_)
      · refine x_aload_n C 0 dX13_manyHere_26 rfl rfl ?_
        refine x_ldcS C (i := 18) sr18 dX13_manyHere_27 ?_
        refine x_callV C (ct_X13_isWord _ _ n 18 σ (by decide)) mt_X13_isWord vr_X13_isWord wd1713 cls_X13 at_X13 rfl ⟨rfl, rfl, Nat.le_of_ble_eq_true rfl, Nat.le_of_ble_eq_true rfl⟩ rfl (by decide) dX13_manyHere_29 (kI (fun v9 => ?_))
        refine x_if_eq C 40 rfl dX13_manyHere_32 rfl (fun c10 => x_op c10 ?_) (fun c10 => x_on c10 ?_)
        · refine x_aload_n C 0 dX13_manyHere_40 rfl rfl ?_
          refine x_ldcS C (i := 19) sr19 dX13_manyHere_41 ?_
          refine x_callV C (ct_X13_isWord _ _ n 19 σ (by decide)) mt_X13_isWord vr_X13_isWord wd1713 cls_X13 at_X13 rfl ⟨rfl, rfl, Nat.le_of_ble_eq_true rfl, Nat.le_of_ble_eq_true rfl⟩ rfl (by decide) dX13_manyHere_43 (kI (fun v11 => ?_))
          refine x_if_eq C 54 rfl dX13_manyHere_46 rfl (fun c12 => x_op c12 ?_) (fun c12 => x_on c12 ?_)
          · refine x_aload_n C 0 dX13_manyHere_54 rfl rfl ?_
            refine x_ldcS C (i := 20) sr20 dX13_manyHere_55 ?_
            refine x_callV C (ct_X13_isWord _ _ n 20 σ (by decide)) mt_X13_isWord vr_X13_isWord wd1713 cls_X13 at_X13 rfl ⟨rfl, rfl, Nat.le_of_ble_eq_true rfl, Nat.le_of_ble_eq_true rfl⟩ rfl (by decide) dX13_manyHere_57 (kI (fun v13 => ?_))
            refine x_if_eq C 68 rfl dX13_manyHere_60 rfl (fun c14 => x_op c14 ?_) (fun c14 => x_on c14 ?_)
            · refine x_aload_n C 0 dX13_manyHere_68 rfl rfl ?_
              refine x_ldcS C (i := 21) sr21 dX13_manyHere_69 ?_
              refine x_callV C (ct_X13_isWord _ _ n 21 σ (by decide)) mt_X13_isWord vr_X13_isWord wd1713 cls_X13 at_X13 rfl ⟨rfl, rfl, Nat.le_of_ble_eq_true rfl, Nat.le_of_ble_eq_true rfl⟩ rfl (by decide) dX13_manyHere_71 (kI (fun v15 => ?_))
              refine x_if_eq C 82 rfl dX13_manyHere_74 rfl (fun c16 => x_op c16 ?_) (fun c16 => x_on c16 ?_)
              · refine x_iconst C (-1) dX13_manyHere_82 rfl ?_
                refine x_pick [] rfl ?_
                exact hJ4 (-1)
              · refine x_bipush C (9) dX13_manyHere_77 rfl ?_
                refine x_goto C 83 dX13_manyHere_79 rfl ?_
                refine x_pick [] rfl ?_
                exact hJ4 9
            · refine x_bipush C (8) dX13_manyHere_63 rfl ?_
              refine x_goto C 83 dX13_manyHere_65 rfl ?_
              refine x_pick [] rfl ?_
              exact hJ4 8
          · refine x_bipush C (7) dX13_manyHere_49 rfl ?_
            refine x_goto C 83 dX13_manyHere_51 rfl ?_
            refine x_pick [] rfl ?_
            exact hJ4 7
        · refine x_bipush C (6) dX13_manyHere_35 rfl ?_
          refine x_goto C 83 dX13_manyHere_37 rfl ?_
          refine x_pick [] rfl ?_
          exact hJ4 6
      · refine x_iconst C (5) dX13_manyHere_22 rfl ?_
        refine x_goto C 83 dX13_manyHere_23 rfl ?_
        refine x_pick [] rfl ?_
        exact hJ4 5
    · refine x_iconst C (4) dX13_manyHere_9 rfl ?_
      refine x_goto C 83 dX13_manyHere_10 rfl ?_
      refine x_pick [] rfl ?_
      exact hJ4 4
theorem ct_X13_manyHere (l : Launch) (E : xE) (n : Nat) (σ : xS)   : xMet l E yX13_manyHere cX13_manyHere 1 (some .int) { frames := 6, cells := 0, slots := 0, locals := 128 } [.ref (E.2.2 + 184)] WW WW σ (xrI (m_X13_manyHere n σ) σ) := by
  refine xMet.of0 (by decide) (Nat.le_of_ble_eq_true rfl) rfl rfl (fun X hE C => ?_)
  subst hE
  exact xMap (fun v => (some (iV v), σ)) (wk_X13_manyHere C (fun _ => rfl) )
theorem mt_X13_manyHere : xMth yX13_manyHere cX13_manyHere 1 (some .int) 0 := ⟨wd1735, wd164, ⟨by decide, by decide, rfl⟩⟩
theorem vr_X13_manyHere : xVir yX13_manyHere := ⟨wd1734, wd60⟩
def m_X13_part (n : Nat) (p1 : Int) (k2 : Nat) (p3 : Int) (p4 : Int) (σ : xS) : Option xS :=
  (m_X13_needs n k2 σ).bind fun s1 => xbS (m_X13_number n p3 p4 s1) fun v3 s2 => xck (zI p1) 289 <| xlet (xput s2 186 (zI p1).toNat v3) fun s4 => some s4
set_option maxHeartbeats 4000000 in
set_option maxRecDepth 100000 in
theorem wk_X13_part {X : xX} {Qf : xS → State → Prop} {n : Nat} {p1 : Int} {k2 : Nat} {p3 : Int} {p4 : Int} {σ : xS} (C : xCx X cX13_part "BakeryNightModel" none { frames := 8, cells := 0, slots := 0, locals := 170 } 5) (hQ : ∀ τ, Qf τ = xQf X WW (none, τ)) (hk2 : k2 < 24) : WO X Qf WW σ 0 [(0, .ref ((xXE X).2.2 + 184)), (1, iV p1), (2, cR X 1 k2), (3, iV p3), (4, iV p4)] [] (m_X13_part n p1 k2 p3 p4 σ) := by
  unfold m_X13_part
  refine x_aload_n C 0 dX13_part_0 rfl rfl ?_
  refine x_aload_n C 2 dX13_part_1 rfl rfl ?_
  refine x_callV C (ct_X13_needs _ _ n k2 σ hk2) mt_X13_needs vr_X13_needs wd1811 cls_X13 at_X13 rfl ⟨rfl, rfl, Nat.le_of_ble_eq_true rfl, Nat.le_of_ble_eq_true rfl⟩ rfl (by decide) dX13_part_2 (kV (fun s1 => ?_))
  refine x_aload_n C 0 dX13_part_5 rfl rfl ?_
  refine x_get (v := .ref ((xXE X).2.2 + 186)) C 1 cls_X13 at_X13 (by decide) wd1503 rfl (xV_r (rt_X13_draft  _) rfl) dX13_part_6 ?_
  refine x_iload_n C 1 dX13_part_9 rfl rfl ?_
  refine x_aload_n C 0 dX13_part_10 rfl rfl ?_
  refine x_iload_n C 3 dX13_part_11 rfl rfl ?_
  refine x_iload C 4 dX13_part_12 rfl ?_
  refine x_callV C (ct_X13_number _ _ n p3 p4 s1) mt_X13_number vr_X13_number wd1758 cls_X13 at_X13 rfl ⟨rfl, rfl, Nat.le_of_ble_eq_true rfl, Nat.le_of_ble_eq_true rfl⟩ rfl (Nat.le_of_ble_eq_true rfl) dX13_part_14 (kS (fun v3 s2 => ?_))
  refine x_iast C at_X13_draft rfl dX13_part_17 (fun _ => ?_)
  refine x_letS (fun s4 => ?_)
  exact x_vretQ C (hQ _) rfl dX13_part_18
theorem ct_X13_part (l : Launch) (E : xE) (n : Nat) (p1 : Int) (k2 : Nat) (p3 : Int) (p4 : Int) (σ : xS) (hk2 : k2 < 24)  : xMet l E yX13_part cX13_part 5 none { frames := 8, cells := 0, slots := 0, locals := 170 } [.ref (E.2.2 + 184), iV p1, cRE E 1 k2, iV p3, iV p4] WW WW σ (xrV (m_X13_part n p1 k2 p3 p4 σ)) := by
  refine xMet.of0 (by decide) (Nat.le_of_ble_eq_true rfl) rfl rfl (fun X hE C => ?_)
  subst hE
  exact xMap (fun q => (none, q)) (wk_X13_part C (fun _ => rfl) hk2)
theorem mt_X13_part : xMth yX13_part cX13_part 5 none 4 := ⟨wd1810, wd164, ⟨by decide, by decide, rfl⟩⟩
theorem vr_X13_part : xVir yX13_part := ⟨wd1809, wd73⟩
def m_X13_doughStatement (n : Nat) (σ : xS) : Option xS :=
  xck 4 289 <| xlet (σ 186 (4 : Int).toNat) fun v1 => xbS (m_X13_fresh n 190 6 v1 σ) fun v3 s2 => xlet (10 + (10 * v1)) fun v4 => (m_X13_part n (v4 + 0) 5 1 120 s2).bind fun s5 => (m_X13_part n (v4 + 1) 6 0 300 s5).bind fun s6 => (m_X13_part n (v4 + 2) 7 1 120 s6).bind fun s7 => (m_X13_part n (v4 + 3) 8 0 300 s7).bind fun s8 => (m_X13_part n (v4 + 4) 9 0 240 s8).bind fun s9 => (m_X13_part n (v4 + 5) 10 1 120 s9).bind fun s10 => (m_X13_part n (v4 + 6) 11 100 300 s10).bind fun s11 => (m_X13_part n (v4 + 7) 12 5 200 s11).bind fun s12 => (m_X13_part n (v4 + 8) 13 1 1440 s12).bind fun s13 => (m_X13_part n (v4 + 9) 14 0 999 s13).bind fun s14 => xck (zI v1) 6 <| xlet (xput s14 190 (zI v1).toNat v3) fun s15 => some s15
set_option maxHeartbeats 4000000 in
set_option maxRecDepth 100000 in
theorem wk_X13_doughStatement {X : xX} {Qf : xS → State → Prop} {n : Nat} {σ : xS} (C : xCx X cX13_doughStatement "BakeryNightModel" none { frames := 9, cells := 0, slots := 0, locals := 196 } 5) (hQ : ∀ τ, Qf τ = xQf X WW (none, τ))  : WO X Qf WW σ 0 [(0, .ref ((xXE X).2.2 + 184))] [] (m_X13_doughStatement n σ) := by
  unfold m_X13_doughStatement
  refine x_aload_n C 0 dX13_doughStatement_0 rfl rfl ?_
  refine x_get (v := .ref ((xXE X).2.2 + 186)) C 1 cls_X13 at_X13 (by decide) wd1503 rfl (xV_r (rt_X13_draft  _) rfl) dX13_doughStatement_1 ?_
  refine x_iconst C (4) dX13_doughStatement_4 rfl ?_
  refine x_iald C at_X13_draft (zIl _ rfl) dX13_doughStatement_5 (fun _ => ?_)
  refine x_letI (fun v1 => ?_)
  refine x_istore_n (L' := [(1, _), (0, _)]) C dX13_doughStatement_6 rfl (by decide) rfl ?_
  refine x_aload_n C 1 dX13_doughStatement_7 rfl rfl ?_
  refine x_aload_n C 1 dX13_doughStatement_8 rfl rfl ?_
  refine x_get (v := .ref ((xXE X).2.2 + 190)) C 15 cls_X13 at_X13 (by decide) wd1517 rfl (xV_r (rt_X13_doughName  _) rfl) dX13_doughStatement_9 ?_
  refine x_iload_n C 0 dX13_doughStatement_12 rfl rfl ?_
  refine x_callV C (ct_X13_fresh _ _ n 190 6 v1 σ at_X13_doughName) mt_X13_fresh vr_X13_fresh wd1776 cls_X13 at_X13 rfl ⟨rfl, rfl, Nat.le_of_ble_eq_true rfl, Nat.le_of_ble_eq_true rfl⟩ rfl (by decide) dX13_doughStatement_13 (kT (fun v3 s2 => ?_))
  refine x_lstore_n (L' := [(2, _), (1, _), (0, _)]) C dX13_doughStatement_16 rfl (by decide) rfl ?_
  refine x_bipush C (10) dX13_doughStatement_17 rfl ?_
  refine x_bipush C (10) dX13_doughStatement_19 rfl ?_
  refine x_iload_n C 1 dX13_doughStatement_21 rfl rfl ?_
  refine x_imul C dX13_doughStatement_22 ?_
  refine x_iadd C dX13_doughStatement_23 ?_
  refine x_letI (fun v4 => ?_)
  refine x_istore (L' := [(4, _), (2, _), (1, _), (0, _)]) C dX13_doughStatement_24 (by decide) rfl ?_
  refine x_aload_n C 3 dX13_doughStatement_26 rfl rfl ?_
  refine x_iload C 0 dX13_doughStatement_27 rfl ?_
  refine x_iconst C (0) dX13_doughStatement_29 rfl ?_
  refine x_iadd C dX13_doughStatement_30 ?_
  refine x_ldcS C (i := 5) sr5 dX13_doughStatement_31 ?_
  refine x_iconst C (1) dX13_doughStatement_33 rfl ?_
  refine x_bipush C (120) dX13_doughStatement_34 rfl ?_
  refine x_callV C (ct_X13_part _ _ n (v4 + 0) 5 1 120 s2 (by decide)) mt_X13_part vr_X13_part wd1807 cls_X13 at_X13 rfl ⟨rfl, rfl, Nat.le_of_ble_eq_true rfl, Nat.le_of_ble_eq_true rfl⟩ rfl (by decide) dX13_doughStatement_36 (kV (fun s5 => ?_))
  refine x_aload_n C 3 dX13_doughStatement_39 rfl rfl ?_
  refine x_iload C 0 dX13_doughStatement_40 rfl ?_
  refine x_iconst C (1) dX13_doughStatement_42 rfl ?_
  refine x_iadd C dX13_doughStatement_43 ?_
  refine x_ldcS C (i := 6) sr6 dX13_doughStatement_44 ?_
  refine x_iconst C (0) dX13_doughStatement_46 rfl ?_
  refine x_sipush C (300) dX13_doughStatement_47 rfl ?_
  refine x_callV C (ct_X13_part _ _ n (v4 + 1) 6 0 300 s5 (by decide)) mt_X13_part vr_X13_part wd1807 cls_X13 at_X13 rfl ⟨rfl, rfl, Nat.le_of_ble_eq_true rfl, Nat.le_of_ble_eq_true rfl⟩ rfl (by decide) dX13_doughStatement_50 (kV (fun s6 => ?_))
  refine x_aload_n C 3 dX13_doughStatement_53 rfl rfl ?_
  refine x_iload C 0 dX13_doughStatement_54 rfl ?_
  refine x_iconst C (2) dX13_doughStatement_56 rfl ?_
  refine x_iadd C dX13_doughStatement_57 ?_
  refine x_ldcS C (i := 7) sr7 dX13_doughStatement_58 ?_
  refine x_iconst C (1) dX13_doughStatement_60 rfl ?_
  refine x_bipush C (120) dX13_doughStatement_61 rfl ?_
  refine x_callV C (ct_X13_part _ _ n (v4 + 2) 7 1 120 s6 (by decide)) mt_X13_part vr_X13_part wd1807 cls_X13 at_X13 rfl ⟨rfl, rfl, Nat.le_of_ble_eq_true rfl, Nat.le_of_ble_eq_true rfl⟩ rfl (by decide) dX13_doughStatement_63 (kV (fun s7 => ?_))
  refine x_aload_n C 3 dX13_doughStatement_66 rfl rfl ?_
  refine x_iload C 0 dX13_doughStatement_67 rfl ?_
  refine x_iconst C (3) dX13_doughStatement_69 rfl ?_
  refine x_iadd C dX13_doughStatement_70 ?_
  refine x_ldcS C (i := 8) sr8 dX13_doughStatement_71 ?_
  refine x_iconst C (0) dX13_doughStatement_73 rfl ?_
  refine x_sipush C (300) dX13_doughStatement_74 rfl ?_
  refine x_callV C (ct_X13_part _ _ n (v4 + 3) 8 0 300 s7 (by decide)) mt_X13_part vr_X13_part wd1807 cls_X13 at_X13 rfl ⟨rfl, rfl, Nat.le_of_ble_eq_true rfl, Nat.le_of_ble_eq_true rfl⟩ rfl (by decide) dX13_doughStatement_77 (kV (fun s8 => ?_))
  refine x_aload_n C 3 dX13_doughStatement_80 rfl rfl ?_
  refine x_iload C 0 dX13_doughStatement_81 rfl ?_
  refine x_iconst C (4) dX13_doughStatement_83 rfl ?_
  refine x_iadd C dX13_doughStatement_84 ?_
  refine x_ldcS C (i := 9) sr9 dX13_doughStatement_85 ?_
  refine x_iconst C (0) dX13_doughStatement_87 rfl ?_
  refine x_sipush C (240) dX13_doughStatement_88 rfl ?_
  refine x_callV C (ct_X13_part _ _ n (v4 + 4) 9 0 240 s8 (by decide)) mt_X13_part vr_X13_part wd1807 cls_X13 at_X13 rfl ⟨rfl, rfl, Nat.le_of_ble_eq_true rfl, Nat.le_of_ble_eq_true rfl⟩ rfl (by decide) dX13_doughStatement_91 (kV (fun s9 => ?_))
  refine x_aload_n C 3 dX13_doughStatement_94 rfl rfl ?_
  refine x_iload C 0 dX13_doughStatement_95 rfl ?_
  refine x_iconst C (5) dX13_doughStatement_97 rfl ?_
  refine x_iadd C dX13_doughStatement_98 ?_
  refine x_ldcS C (i := 10) sr10 dX13_doughStatement_99 ?_
  refine x_iconst C (1) dX13_doughStatement_101 rfl ?_
  refine x_bipush C (120) dX13_doughStatement_102 rfl ?_
  refine x_callV C (ct_X13_part _ _ n (v4 + 5) 10 1 120 s9 (by decide)) mt_X13_part vr_X13_part wd1807 cls_X13 at_X13 rfl ⟨rfl, rfl, Nat.le_of_ble_eq_true rfl, Nat.le_of_ble_eq_true rfl⟩ rfl (by decide) dX13_doughStatement_104 (kV (fun s10 => ?_))
  refine x_aload_n C 3 dX13_doughStatement_107 rfl rfl ?_
  refine x_iload C 0 dX13_doughStatement_108 rfl ?_
  refine x_bipush C (6) dX13_doughStatement_110 rfl ?_
  refine x_iadd C dX13_doughStatement_112 ?_
  refine x_ldcS C (i := 11) sr11 dX13_doughStatement_113 ?_
  refine x_bipush C (100) dX13_doughStatement_115 rfl ?_
  refine x_sipush C (300) dX13_doughStatement_117 rfl ?_
  refine x_callV C (ct_X13_part _ _ n (v4 + 6) 11 100 300 s10 (by decide)) mt_X13_part vr_X13_part wd1807 cls_X13 at_X13 rfl ⟨rfl, rfl, Nat.le_of_ble_eq_true rfl, Nat.le_of_ble_eq_true rfl⟩ rfl (by decide) dX13_doughStatement_120 (kV (fun s11 => ?_))
  refine x_aload_n C 3 dX13_doughStatement_123 rfl rfl ?_
  refine x_iload C 0 dX13_doughStatement_124 rfl ?_
  refine x_bipush C (7) dX13_doughStatement_126 rfl ?_
  refine x_iadd C dX13_doughStatement_128 ?_
  refine x_ldcS C (i := 12) sr12 dX13_doughStatement_129 ?_
  refine x_iconst C (5) dX13_doughStatement_131 rfl ?_
  refine x_sipush C (200) dX13_doughStatement_132 rfl ?_
  refine x_callV C (ct_X13_part _ _ n (v4 + 7) 12 5 200 s11 (by decide)) mt_X13_part vr_X13_part wd1807 cls_X13 at_X13 rfl ⟨rfl, rfl, Nat.le_of_ble_eq_true rfl, Nat.le_of_ble_eq_true rfl⟩ rfl (by decide) dX13_doughStatement_135 (kV (fun s12 => ?_))
  refine x_aload_n C 3 dX13_doughStatement_138 rfl rfl ?_
  refine x_iload C 0 dX13_doughStatement_139 rfl ?_
  refine x_bipush C (8) dX13_doughStatement_141 rfl ?_
  refine x_iadd C dX13_doughStatement_143 ?_
  refine x_ldcS C (i := 13) sr13 dX13_doughStatement_144 ?_
  refine x_iconst C (1) dX13_doughStatement_146 rfl ?_
  refine x_sipush C (1440) dX13_doughStatement_147 rfl ?_
  refine x_callV C (ct_X13_part _ _ n (v4 + 8) 13 1 1440 s12 (by decide)) mt_X13_part vr_X13_part wd1807 cls_X13 at_X13 rfl ⟨rfl, rfl, Nat.le_of_ble_eq_true rfl, Nat.le_of_ble_eq_true rfl⟩ rfl (by decide) dX13_doughStatement_150 (kV (fun s13 => ?_))
  refine x_aload_n C 3 dX13_doughStatement_153 rfl rfl ?_
  refine x_iload C 0 dX13_doughStatement_154 rfl ?_
  refine x_bipush C (9) dX13_doughStatement_156 rfl ?_
  refine x_iadd C dX13_doughStatement_158 ?_
  refine x_ldcS C (i := 14) sr14 dX13_doughStatement_159 ?_
  refine x_iconst C (0) dX13_doughStatement_161 rfl ?_
  refine x_sipush C (999) dX13_doughStatement_162 rfl ?_
  refine x_callV C (ct_X13_part _ _ n (v4 + 9) 14 0 999 s13 (by decide)) mt_X13_part vr_X13_part wd1807 cls_X13 at_X13 rfl ⟨rfl, rfl, Nat.le_of_ble_eq_true rfl, Nat.le_of_ble_eq_true rfl⟩ rfl (by decide) dX13_doughStatement_165 (kV (fun s14 => ?_))
  refine x_aload_n C 3 dX13_doughStatement_168 rfl rfl ?_
  refine x_get (v := .ref ((xXE X).2.2 + 190)) C 15 cls_X13 at_X13 (by decide) wd1517 rfl (xV_r (rt_X13_doughName  _) rfl) dX13_doughStatement_169 ?_
  refine x_iload_n C 2 dX13_doughStatement_172 rfl rfl ?_
  refine x_lload_n C 1 dX13_doughStatement_173 rfl rfl ?_
  refine x_last C at_X13_doughName rfl dX13_doughStatement_174 (fun _ => ?_)
  refine x_letS (fun s15 => ?_)
  exact x_vretQ C (hQ _) rfl dX13_doughStatement_175
theorem ct_X13_doughStatement (l : Launch) (E : xE) (n : Nat) (σ : xS)   : xMet l E yX13_doughStatement cX13_doughStatement 5 none { frames := 9, cells := 0, slots := 0, locals := 196 } [.ref (E.2.2 + 184)] WW WW σ (xrV (m_X13_doughStatement n σ)) := by
  refine xMet.of0 (by decide) (Nat.le_of_ble_eq_true rfl) rfl rfl (fun X hE C => ?_)
  subst hE
  exact xMap (fun q => (none, q)) (wk_X13_doughStatement C (fun _ => rfl) )
theorem mt_X13_doughStatement : xMth yX13_doughStatement cX13_doughStatement 5 none 0 := ⟨wd1775, wd164, ⟨by decide, by decide, rfl⟩⟩
theorem vr_X13_doughStatement : xVir yX13_doughStatement := ⟨wd1774, wd68⟩
def m_X13_ovenStatement (n : Nat) (σ : xS) : Option xS :=
  xck 5 289 <| xlet (70 + (4 * (σ 186 (5 : Int).toNat))) fun v1 => (m_X13_part n (v1 + 0) 16 1 6 σ).bind fun s2 => (m_X13_part n (v1 + 1) 11 20 300 s2).bind fun s3 => (m_X13_part n (v1 + 2) 17 1 50 s3).bind fun s4 => some s4
set_option maxHeartbeats 4000000 in
set_option maxRecDepth 100000 in
theorem wk_X13_ovenStatement {X : xX} {Qf : xS → State → Prop} {n : Nat} {σ : xS} (C : xCx X cX13_ovenStatement "BakeryNightModel" none { frames := 9, cells := 0, slots := 0, locals := 194 } 2) (hQ : ∀ τ, Qf τ = xQf X WW (none, τ))  : WO X Qf WW σ 0 [(0, .ref ((xXE X).2.2 + 184))] [] (m_X13_ovenStatement n σ) := by
  unfold m_X13_ovenStatement
  refine x_bipush C (70) dX13_ovenStatement_0 rfl ?_
  refine x_iconst C (4) dX13_ovenStatement_2 rfl ?_
  refine x_aload_n C 0 dX13_ovenStatement_3 rfl rfl ?_
  refine x_get (v := .ref ((xXE X).2.2 + 186)) C 1 cls_X13 at_X13 (by decide) wd1503 rfl (xV_r (rt_X13_draft  _) rfl) dX13_ovenStatement_4 ?_
  refine x_iconst C (5) dX13_ovenStatement_7 rfl ?_
  refine x_iald C at_X13_draft (zIl _ rfl) dX13_ovenStatement_8 (fun _ => ?_)
  refine x_imul C dX13_ovenStatement_9 ?_
  refine x_iadd C dX13_ovenStatement_10 ?_
  refine x_letI (fun v1 => ?_)
  refine x_istore_n (L' := [(1, _), (0, _)]) C dX13_ovenStatement_11 rfl (by decide) rfl ?_
  refine x_aload_n C 1 dX13_ovenStatement_12 rfl rfl ?_
  refine x_iload_n C 0 dX13_ovenStatement_13 rfl rfl ?_
  refine x_iconst C (0) dX13_ovenStatement_14 rfl ?_
  refine x_iadd C dX13_ovenStatement_15 ?_
  refine x_ldcS C (i := 16) sr16 dX13_ovenStatement_16 ?_
  refine x_iconst C (1) dX13_ovenStatement_18 rfl ?_
  refine x_bipush C (6) dX13_ovenStatement_19 rfl ?_
  refine x_callV C (ct_X13_part _ _ n (v1 + 0) 16 1 6 σ (by decide)) mt_X13_part vr_X13_part wd1807 cls_X13 at_X13 rfl ⟨rfl, rfl, Nat.le_of_ble_eq_true rfl, Nat.le_of_ble_eq_true rfl⟩ rfl (by decide) dX13_ovenStatement_21 (kV (fun s2 => ?_))
  refine x_aload_n C 1 dX13_ovenStatement_24 rfl rfl ?_
  refine x_iload_n C 0 dX13_ovenStatement_25 rfl rfl ?_
  refine x_iconst C (1) dX13_ovenStatement_26 rfl ?_
  refine x_iadd C dX13_ovenStatement_27 ?_
  refine x_ldcS C (i := 11) sr11 dX13_ovenStatement_28 ?_
  refine x_bipush C (20) dX13_ovenStatement_30 rfl ?_
  refine x_sipush C (300) dX13_ovenStatement_32 rfl ?_
  refine x_callV C (ct_X13_part _ _ n (v1 + 1) 11 20 300 s2 (by decide)) mt_X13_part vr_X13_part wd1807 cls_X13 at_X13 rfl ⟨rfl, rfl, Nat.le_of_ble_eq_true rfl, Nat.le_of_ble_eq_true rfl⟩ rfl (by decide) dX13_ovenStatement_35 (kV (fun s3 => ?_))
  refine x_aload_n C 1 dX13_ovenStatement_38 rfl rfl ?_
  refine x_iload_n C 0 dX13_ovenStatement_39 rfl rfl ?_
  refine x_iconst C (2) dX13_ovenStatement_40 rfl ?_
  refine x_iadd C dX13_ovenStatement_41 ?_
  refine x_ldcS C (i := 17) sr17 dX13_ovenStatement_42 ?_
  refine x_iconst C (1) dX13_ovenStatement_44 rfl ?_
  refine x_bipush C (50) dX13_ovenStatement_45 rfl ?_
  refine x_callV C (ct_X13_part _ _ n (v1 + 2) 17 1 50 s3 (by decide)) mt_X13_part vr_X13_part wd1807 cls_X13 at_X13 rfl ⟨rfl, rfl, Nat.le_of_ble_eq_true rfl, Nat.le_of_ble_eq_true rfl⟩ rfl (by decide) dX13_ovenStatement_47 (kV (fun s4 => ?_))
  exact x_vretQ C (hQ _) rfl dX13_ovenStatement_50
theorem ct_X13_ovenStatement (l : Launch) (E : xE) (n : Nat) (σ : xS)   : xMet l E yX13_ovenStatement cX13_ovenStatement 2 none { frames := 9, cells := 0, slots := 0, locals := 194 } [.ref (E.2.2 + 184)] WW WW σ (xrV (m_X13_ovenStatement n σ)) := by
  refine xMet.of0 (by decide) (Nat.le_of_ble_eq_true rfl) rfl rfl (fun X hE C => ?_)
  subst hE
  exact xMap (fun q => (none, q)) (wk_X13_ovenStatement C (fun _ => rfl) )
theorem mt_X13_ovenStatement : xMth yX13_ovenStatement cX13_ovenStatement 2 none 0 := ⟨wd1822, wd164, ⟨by decide, by decide, rfl⟩⟩
theorem vr_X13_ovenStatement : xVir yX13_ovenStatement := ⟨wd1821, wd76⟩
def m_X13_place (n : Nat) (σ : xS) : Option (Int × xS) :=
  xbS (m_X13_takes n 23 σ) fun v2 s1 => xj (fun (q5 : xS × Int) => some (q5.2, q5.1)) fun J3 => if (zI v2) = 0 then xck 6 289 <| xbS (m_X13_known n 191 7 (s1 186 (6 : Int).toNat) s1) fun v8 s7 => J3 (s7, v8 + 1) else J3 (s1, 0)
set_option maxHeartbeats 4000000 in
set_option maxRecDepth 100000 in
theorem wk_X13_place {X : xX} {Qf : (Int × xS) → State → Prop} {n : Nat} {σ : xS} (C : xCx X cX13_place "BakeryNightModel" (some .int) { frames := 9, cells := 0, slots := 0, locals := 197 } 1) (hQ : ∀ v τ, Qf (v, τ) = xQf X WW (some (iV v), τ))  : WO X Qf WW σ 0 [(0, .ref ((xXE X).2.2 + 184))] [] (m_X13_place n σ) := by
  unfold m_X13_place
  refine x_aload_n C 0 dX13_place_0 rfl rfl ?_
  refine x_ldcS C (i := 23) sr23 dX13_place_1 ?_
  refine x_callV C (ct_X13_takes _ _ n 23 σ (by decide)) mt_X13_takes vr_X13_takes wd1815 cls_X13 at_X13 rfl ⟨rfl, rfl, Nat.le_of_ble_eq_true rfl, Nat.le_of_ble_eq_true rfl⟩ rfl (by decide) dX13_place_3 (kS (fun v2 s1 => ?_))
  refine x_join (fun J => ∀ q5 : xS × Int, WO X Qf WW q5.1 30 [] [iV q5.2] (J q5)) ?_ ?_
  · intro q5
    exact x_iretQ C (hQ _ _) rfl dX13_place_30
  · intro J3 hJ4
    refine x_if_eq C 13 rfl dX13_place_6 rfl (fun c6 => x_op c6 ?_) (fun c6 => x_on c6 ?_)
    · refine x_aload_n C 0 dX13_place_13 rfl rfl ?_
      refine x_aload_n C 0 dX13_place_14 rfl rfl ?_
      refine x_get (v := .ref ((xXE X).2.2 + 191)) C 16 cls_X13 at_X13 (by decide) wd1518 rfl (xV_r (rt_X13_shopName  _) rfl) dX13_place_15 ?_
      refine x_aload_n C 0 dX13_place_18 rfl rfl ?_
      refine x_get (v := .ref ((xXE X).2.2 + 186)) C 1 cls_X13 at_X13 (by decide) wd1503 rfl (xV_r (rt_X13_draft  _) rfl) dX13_place_19 ?_
      refine x_bipush C (6) dX13_place_22 rfl ?_
      refine x_iald C at_X13_draft (zIl _ rfl) dX13_place_24 (fun _ => ?_)
      refine x_callV C (ct_X13_known _ _ n 191 7 (s1 186 (6 : Int).toNat) s1 at_X13_shopName) mt_X13_known vr_X13_known wd1831 cls_X13 at_X13 rfl ⟨rfl, rfl, Nat.le_of_ble_eq_true rfl, Nat.le_of_ble_eq_true rfl⟩ rfl (by decide) dX13_place_25 (kS (fun v8 s7 => ?_))
      refine x_iconst C (1) dX13_place_28 rfl ?_
      refine x_iadd C dX13_place_29 ?_
      refine x_pick [] rfl ?_
      exact hJ4 (s7, v8 + 1)
    · refine x_iconst C (0) dX13_place_9 rfl ?_
      refine x_goto C 30 dX13_place_10 rfl ?_
      refine x_pick [] rfl ?_
      exact hJ4 (s1, 0)
theorem ct_X13_place (l : Launch) (E : xE) (n : Nat) (σ : xS)   : xMet l E yX13_place cX13_place 1 (some .int) { frames := 9, cells := 0, slots := 0, locals := 197 } [.ref (E.2.2 + 184)] WW WW σ (xrS (m_X13_place n σ)) := by
  refine xMet.of0 (by decide) (Nat.le_of_ble_eq_true rfl) rfl rfl (fun X hE C => ?_)
  subst hE
  exact xMap (fun q => (some (iV q.1), q.2)) (wk_X13_place C (fun _ _ => rfl) )
theorem mt_X13_place : xMth yX13_place cX13_place 1 (some .int) 0 := ⟨wd1830, wd164, ⟨by decide, by decide, rfl⟩⟩
theorem vr_X13_place : xVir yX13_place := ⟨wd1829, wd78⟩
def m_X13_streetStatement (n : Nat) (σ : xS) : Option xS :=
  xck 7 289 <| xlet (86 + (4 * (σ 186 (7 : Int).toNat))) fun v1 => xbS (m_X13_place n σ) fun v3 s2 => xck (zI (v1 + 0)) 289 <| xlet (xput s2 186 (zI (v1 + 0)).toNat v3) fun s4 => xlet (s4 184 11) fun v5 => xbS (m_X13_place n s4) fun v7 s6 => xck (zI (v1 + 1)) 289 <| xlet (xput s6 186 (zI (v1 + 1)).toNat v7) fun s8 => xck (zI (v1 + 0)) 289 <| xck (zI (v1 + 1)) 289 <| xj (fun (q12 : xS) => xbS (m_X13_number n 1 120 q12) fun v14 s13 => xck (zI (v1 + 2)) 289 <| xlet (xput s13 186 (zI (v1 + 2)).toNat v14) fun s15 => some s15) fun J10 => if (zI (s8 186 (zI (v1 + 0)).toNat)) = (zI (s8 186 (zI (v1 + 1)).toNat)) then (m_X13_faulty 3 v5 s8).bind fun s17 => J10 s17 else J10 s8
set_option maxHeartbeats 4000000 in
set_option maxRecDepth 100000 in
theorem wk_X13_streetStatement {X : xX} {Qf : xS → State → Prop} {n : Nat} {σ : xS} (C : xCx X cX13_streetStatement "BakeryNightModel" none { frames := 10, cells := 0, slots := 0, locals := 217 } 3) (hQ : ∀ τ, Qf τ = xQf X WW (none, τ))  : WO X Qf WW σ 0 [(0, .ref ((xXE X).2.2 + 184))] [] (m_X13_streetStatement n σ) := by
  unfold m_X13_streetStatement
  refine x_bipush C (86) dX13_streetStatement_0 rfl ?_
  refine x_iconst C (4) dX13_streetStatement_2 rfl ?_
  refine x_aload_n C 0 dX13_streetStatement_3 rfl rfl ?_
  refine x_get (v := .ref ((xXE X).2.2 + 186)) C 1 cls_X13 at_X13 (by decide) wd1503 rfl (xV_r (rt_X13_draft  _) rfl) dX13_streetStatement_4 ?_
  refine x_bipush C (7) dX13_streetStatement_7 rfl ?_
  refine x_iald C at_X13_draft (zIl _ rfl) dX13_streetStatement_9 (fun _ => ?_)
  refine x_imul C dX13_streetStatement_10 ?_
  refine x_iadd C dX13_streetStatement_11 ?_
  refine x_letI (fun v1 => ?_)
  refine x_istore_n (L' := [(1, _), (0, _)]) C dX13_streetStatement_12 rfl (by decide) rfl ?_
  refine x_aload_n C 1 dX13_streetStatement_13 rfl rfl ?_
  refine x_get (v := .ref ((xXE X).2.2 + 186)) C 1 cls_X13 at_X13 (by decide) wd1503 rfl (xV_r (rt_X13_draft  _) rfl) dX13_streetStatement_14 ?_
  refine x_iload_n C 0 dX13_streetStatement_17 rfl rfl ?_
  refine x_iconst C (0) dX13_streetStatement_18 rfl ?_
  refine x_iadd C dX13_streetStatement_19 ?_
  refine x_aload_n C 1 dX13_streetStatement_20 rfl rfl ?_
  refine x_callV C (ct_X13_place _ _ n σ) mt_X13_place vr_X13_place wd1827 cls_X13 at_X13 rfl ⟨rfl, rfl, Nat.le_of_ble_eq_true rfl, Nat.le_of_ble_eq_true rfl⟩ rfl (Nat.le_of_ble_eq_true rfl) dX13_streetStatement_21 (kS (fun v3 s2 => ?_))
  refine x_iast C at_X13_draft rfl dX13_streetStatement_24 (fun _ => ?_)
  refine x_letS (fun s4 => ?_)
  refine x_aload_n C 1 dX13_streetStatement_25 rfl rfl ?_
  refine x_get (v := iV (s4 184 11)) C 11 cls_X13 at_X13 (by decide) wd1513 rfl rfl dX13_streetStatement_26 ?_
  refine x_letI (fun v5 => ?_)
  refine x_istore_n (L' := [(2, _), (1, _), (0, _)]) C dX13_streetStatement_29 rfl (by decide) rfl ?_
  refine x_aload_n C 2 dX13_streetStatement_30 rfl rfl ?_
  refine x_get (v := .ref ((xXE X).2.2 + 186)) C 1 cls_X13 at_X13 (by decide) wd1503 rfl (xV_r (rt_X13_draft  _) rfl) dX13_streetStatement_31 ?_
  refine x_iload_n C 1 dX13_streetStatement_34 rfl rfl ?_
  refine x_iconst C (1) dX13_streetStatement_35 rfl ?_
  refine x_iadd C dX13_streetStatement_36 ?_
  refine x_aload_n C 2 dX13_streetStatement_37 rfl rfl ?_
  refine x_callV C (ct_X13_place _ _ n s4) mt_X13_place vr_X13_place wd1827 cls_X13 at_X13 rfl ⟨rfl, rfl, Nat.le_of_ble_eq_true rfl, Nat.le_of_ble_eq_true rfl⟩ rfl (Nat.le_of_ble_eq_true rfl) dX13_streetStatement_38 (kS (fun v7 s6 => ?_))
  refine x_iast C at_X13_draft rfl dX13_streetStatement_41 (fun _ => ?_)
  refine x_letS (fun s8 => ?_)
  refine x_aload_n C 2 dX13_streetStatement_42 rfl rfl ?_
  refine x_get (v := .ref ((xXE X).2.2 + 186)) C 1 cls_X13 at_X13 (by decide) wd1503 rfl (xV_r (rt_X13_draft  _) rfl) dX13_streetStatement_43 ?_
  refine x_iload_n C 1 dX13_streetStatement_46 rfl rfl ?_
  refine x_iconst C (0) dX13_streetStatement_47 rfl ?_
  refine x_iadd C dX13_streetStatement_48 ?_
  refine x_iald C at_X13_draft rfl dX13_streetStatement_49 (fun _ => ?_)
  refine x_aload_n C 2 dX13_streetStatement_50 rfl rfl ?_
  refine x_get (v := .ref ((xXE X).2.2 + 186)) C 1 cls_X13 at_X13 (by decide) wd1503 rfl (xV_r (rt_X13_draft  _) rfl) dX13_streetStatement_51 ?_
  refine x_iload_n C 1 dX13_streetStatement_54 rfl rfl ?_
  refine x_iconst C (1) dX13_streetStatement_55 rfl ?_
  refine x_iadd C dX13_streetStatement_56 ?_
  refine x_iald C at_X13_draft rfl dX13_streetStatement_57 (fun _ => ?_)
  refine x_join (fun J => ∀ q12 : xS, WO X Qf WW q12 67 [(0, .ref ((xXE X).2.2 + 184)), (1, iV v1)] [] (J q12)) ?_ ?_
  · intro q12
    refine x_aload_n C 0 dX13_streetStatement_67 rfl rfl ?_
    refine x_get (v := .ref ((xXE X).2.2 + 186)) C 1 cls_X13 at_X13 (by decide) wd1503 rfl (xV_r (rt_X13_draft  _) rfl) dX13_streetStatement_68 ?_
    refine x_iload_n C 1 dX13_streetStatement_71 rfl rfl ?_
    refine x_iconst C (2) dX13_streetStatement_72 rfl ?_
    refine x_iadd C dX13_streetStatement_73 ?_
    refine x_aload_n C 0 dX13_streetStatement_74 rfl rfl ?_
    refine x_iconst C (1) dX13_streetStatement_75 rfl ?_
    refine x_bipush C (120) dX13_streetStatement_76 rfl ?_
    refine x_callV C (ct_X13_number _ _ n 1 120 q12) mt_X13_number vr_X13_number wd1758 cls_X13 at_X13 rfl ⟨rfl, rfl, Nat.le_of_ble_eq_true rfl, Nat.le_of_ble_eq_true rfl⟩ rfl (Nat.le_of_ble_eq_true rfl) dX13_streetStatement_78 (kS (fun v14 s13 => ?_))
    refine x_iast C at_X13_draft rfl dX13_streetStatement_81 (fun _ => ?_)
    refine x_letS (fun s15 => ?_)
    exact x_vretQ C (hQ _) rfl dX13_streetStatement_82
  · intro J10 hJ11
    refine x_icmp_ne C 67 rfl rfl dX13_streetStatement_58 rfl (fun c16 => x_on c16 ?_) (fun c16 => x_op c16 ?_)
    · refine x_pick [2, 1] rfl ?_
      exact hJ11 s8
    · refine x_aload_n C 2 dX13_streetStatement_61 rfl rfl ?_
      refine x_iconst C (3) dX13_streetStatement_62 rfl ?_
      refine x_iload_n C 0 dX13_streetStatement_63 rfl rfl ?_
      refine x_callV C (ct_X13_faulty _ _ 3 v5 s8) mt_X13_faulty vr_X13_faulty wd1750 cls_X13 at_X13 rfl ⟨rfl, rfl, Nat.le_of_ble_eq_true rfl, Nat.le_of_ble_eq_true rfl⟩ rfl (by decide) dX13_streetStatement_64 (kV (fun s17 => ?_))
      refine x_pick [2, 1] rfl ?_
      exact hJ11 s17
theorem ct_X13_streetStatement (l : Launch) (E : xE) (n : Nat) (σ : xS)   : xMet l E yX13_streetStatement cX13_streetStatement 3 none { frames := 10, cells := 0, slots := 0, locals := 217 } [.ref (E.2.2 + 184)] WW WW σ (xrV (m_X13_streetStatement n σ)) := by
  refine xMet.of0 (by decide) (Nat.le_of_ble_eq_true rfl) rfl rfl (fun X hE C => ?_)
  subst hE
  exact xMap (fun q => (none, q)) (wk_X13_streetStatement C (fun _ => rfl) )
theorem mt_X13_streetStatement : xMth yX13_streetStatement cX13_streetStatement 3 none 0 := ⟨wd1826, wd164, ⟨by decide, by decide, rfl⟩⟩
theorem vr_X13_streetStatement : xVir yX13_streetStatement := ⟨wd1825, wd77⟩
def m_X13_orderStatement (n : Nat) (σ : xS) : Option xS :=
  xck 9 289 <| xlet (169 + (5 * (σ 186 (9 : Int).toNat))) fun v1 => xck 6 289 <| xbS (m_X13_known n 191 7 (σ 186 (6 : Int).toNat) σ) fun v3 s2 => xck (zI (v1 + 0)) 289 <| xlet (xput s2 186 (zI (v1 + 0)).toNat v3) fun s4 => xck 4 289 <| xbS (m_X13_known n 190 6 (s4 186 (4 : Int).toNat) s4) fun v6 s5 => xck (zI (v1 + 1)) 289 <| xlet (xput s5 186 (zI (v1 + 1)).toNat v6) fun s7 => xbS (m_X13_number n 1 200 s7) fun v9 s8 => xck (zI (v1 + 2)) 289 <| xlet (xput s8 186 (zI (v1 + 2)).toNat v9) fun s10 => (m_X13_part n (v1 + 3) 22 0 1439 s10).bind fun s11 => some s11
set_option maxHeartbeats 4000000 in
set_option maxRecDepth 100000 in
theorem wk_X13_orderStatement {X : xX} {Qf : xS → State → Prop} {n : Nat} {σ : xS} (C : xCx X cX13_orderStatement "BakeryNightModel" none { frames := 9, cells := 0, slots := 0, locals := 197 } 2) (hQ : ∀ τ, Qf τ = xQf X WW (none, τ))  : WO X Qf WW σ 0 [(0, .ref ((xXE X).2.2 + 184))] [] (m_X13_orderStatement n σ) := by
  unfold m_X13_orderStatement
  refine x_sipush C (169) dX13_orderStatement_0 rfl ?_
  refine x_iconst C (5) dX13_orderStatement_3 rfl ?_
  refine x_aload_n C 0 dX13_orderStatement_4 rfl rfl ?_
  refine x_get (v := .ref ((xXE X).2.2 + 186)) C 1 cls_X13 at_X13 (by decide) wd1503 rfl (xV_r (rt_X13_draft  _) rfl) dX13_orderStatement_5 ?_
  refine x_bipush C (9) dX13_orderStatement_8 rfl ?_
  refine x_iald C at_X13_draft (zIl _ rfl) dX13_orderStatement_10 (fun _ => ?_)
  refine x_imul C dX13_orderStatement_11 ?_
  refine x_iadd C dX13_orderStatement_12 ?_
  refine x_letI (fun v1 => ?_)
  refine x_istore_n (L' := [(1, _), (0, _)]) C dX13_orderStatement_13 rfl (by decide) rfl ?_
  refine x_aload_n C 1 dX13_orderStatement_14 rfl rfl ?_
  refine x_get (v := .ref ((xXE X).2.2 + 186)) C 1 cls_X13 at_X13 (by decide) wd1503 rfl (xV_r (rt_X13_draft  _) rfl) dX13_orderStatement_15 ?_
  refine x_iload_n C 0 dX13_orderStatement_18 rfl rfl ?_
  refine x_iconst C (0) dX13_orderStatement_19 rfl ?_
  refine x_iadd C dX13_orderStatement_20 ?_
  refine x_aload_n C 1 dX13_orderStatement_21 rfl rfl ?_
  refine x_aload_n C 1 dX13_orderStatement_22 rfl rfl ?_
  refine x_get (v := .ref ((xXE X).2.2 + 191)) C 16 cls_X13 at_X13 (by decide) wd1518 rfl (xV_r (rt_X13_shopName  _) rfl) dX13_orderStatement_23 ?_
  refine x_aload_n C 1 dX13_orderStatement_26 rfl rfl ?_
  refine x_get (v := .ref ((xXE X).2.2 + 186)) C 1 cls_X13 at_X13 (by decide) wd1503 rfl (xV_r (rt_X13_draft  _) rfl) dX13_orderStatement_27 ?_
  refine x_bipush C (6) dX13_orderStatement_30 rfl ?_
  refine x_iald C at_X13_draft (zIl _ rfl) dX13_orderStatement_32 (fun _ => ?_)
  refine x_callV C (ct_X13_known _ _ n 191 7 (σ 186 (6 : Int).toNat) σ at_X13_shopName) mt_X13_known vr_X13_known wd1831 cls_X13 at_X13 rfl ⟨rfl, rfl, Nat.le_of_ble_eq_true rfl, Nat.le_of_ble_eq_true rfl⟩ rfl (Nat.le_of_ble_eq_true rfl) dX13_orderStatement_33 (kS (fun v3 s2 => ?_))
  refine x_iast C at_X13_draft rfl dX13_orderStatement_36 (fun _ => ?_)
  refine x_letS (fun s4 => ?_)
  refine x_aload_n C 1 dX13_orderStatement_37 rfl rfl ?_
  refine x_get (v := .ref ((xXE X).2.2 + 186)) C 1 cls_X13 at_X13 (by decide) wd1503 rfl (xV_r (rt_X13_draft  _) rfl) dX13_orderStatement_38 ?_
  refine x_iload_n C 0 dX13_orderStatement_41 rfl rfl ?_
  refine x_iconst C (1) dX13_orderStatement_42 rfl ?_
  refine x_iadd C dX13_orderStatement_43 ?_
  refine x_aload_n C 1 dX13_orderStatement_44 rfl rfl ?_
  refine x_aload_n C 1 dX13_orderStatement_45 rfl rfl ?_
  refine x_get (v := .ref ((xXE X).2.2 + 190)) C 15 cls_X13 at_X13 (by decide) wd1517 rfl (xV_r (rt_X13_doughName  _) rfl) dX13_orderStatement_46 ?_
  refine x_aload_n C 1 dX13_orderStatement_49 rfl rfl ?_
  refine x_get (v := .ref ((xXE X).2.2 + 186)) C 1 cls_X13 at_X13 (by decide) wd1503 rfl (xV_r (rt_X13_draft  _) rfl) dX13_orderStatement_50 ?_
  refine x_iconst C (4) dX13_orderStatement_53 rfl ?_
  refine x_iald C at_X13_draft (zIl _ rfl) dX13_orderStatement_54 (fun _ => ?_)
  refine x_callV C (ct_X13_known _ _ n 190 6 (s4 186 (4 : Int).toNat) s4 at_X13_doughName) mt_X13_known vr_X13_known wd1831 cls_X13 at_X13 rfl ⟨rfl, rfl, Nat.le_of_ble_eq_true rfl, Nat.le_of_ble_eq_true rfl⟩ rfl (Nat.le_of_ble_eq_true rfl) dX13_orderStatement_55 (kS (fun v6 s5 => ?_))
  refine x_iast C at_X13_draft rfl dX13_orderStatement_58 (fun _ => ?_)
  refine x_letS (fun s7 => ?_)
  refine x_aload_n C 1 dX13_orderStatement_59 rfl rfl ?_
  refine x_get (v := .ref ((xXE X).2.2 + 186)) C 1 cls_X13 at_X13 (by decide) wd1503 rfl (xV_r (rt_X13_draft  _) rfl) dX13_orderStatement_60 ?_
  refine x_iload_n C 0 dX13_orderStatement_63 rfl rfl ?_
  refine x_iconst C (2) dX13_orderStatement_64 rfl ?_
  refine x_iadd C dX13_orderStatement_65 ?_
  refine x_aload_n C 1 dX13_orderStatement_66 rfl rfl ?_
  refine x_iconst C (1) dX13_orderStatement_67 rfl ?_
  refine x_sipush C (200) dX13_orderStatement_68 rfl ?_
  refine x_callV C (ct_X13_number _ _ n 1 200 s7) mt_X13_number vr_X13_number wd1758 cls_X13 at_X13 rfl ⟨rfl, rfl, Nat.le_of_ble_eq_true rfl, Nat.le_of_ble_eq_true rfl⟩ rfl (Nat.le_of_ble_eq_true rfl) dX13_orderStatement_71 (kS (fun v9 s8 => ?_))
  refine x_iast C at_X13_draft rfl dX13_orderStatement_74 (fun _ => ?_)
  refine x_letS (fun s10 => ?_)
  refine x_aload_n C 1 dX13_orderStatement_75 rfl rfl ?_
  refine x_iload_n C 0 dX13_orderStatement_76 rfl rfl ?_
  refine x_iconst C (3) dX13_orderStatement_77 rfl ?_
  refine x_iadd C dX13_orderStatement_78 ?_
  refine x_ldcS C (i := 22) sr22 dX13_orderStatement_79 ?_
  refine x_iconst C (0) dX13_orderStatement_81 rfl ?_
  refine x_sipush C (1439) dX13_orderStatement_82 rfl ?_
  refine x_callV C (ct_X13_part _ _ n (v1 + 3) 22 0 1439 s10 (by decide)) mt_X13_part vr_X13_part wd1807 cls_X13 at_X13 rfl ⟨rfl, rfl, Nat.le_of_ble_eq_true rfl, Nat.le_of_ble_eq_true rfl⟩ rfl (by decide) dX13_orderStatement_85 (kV (fun s11 => ?_))
  exact x_vretQ C (hQ _) rfl dX13_orderStatement_88
theorem ct_X13_orderStatement (l : Launch) (E : xE) (n : Nat) (σ : xS)   : xMet l E yX13_orderStatement cX13_orderStatement 2 none { frames := 9, cells := 0, slots := 0, locals := 197 } [.ref (E.2.2 + 184)] WW WW σ (xrV (m_X13_orderStatement n σ)) := by
  refine xMet.of0 (by decide) (Nat.le_of_ble_eq_true rfl) rfl rfl (fun X hE C => ?_)
  subst hE
  exact xMap (fun q => (none, q)) (wk_X13_orderStatement C (fun _ => rfl) )
theorem mt_X13_orderStatement : xMth yX13_orderStatement cX13_orderStatement 2 none 0 := ⟨wd1842, wd164, ⟨by decide, by decide, rfl⟩⟩
theorem vr_X13_orderStatement : xVir yX13_orderStatement := ⟨wd1841, wd81⟩
def m_X13_many (n : Nat) (p1 : Int) (σ : xS) : Option xS :=
  xck (zI p1) 289 <| xj (fun (q4 : xS) => if (m_X13_fine q4) = 0 then some q4 else (m_X13_skipsWord n q4).bind fun s6 => xj (fun (q10 : xS) => xck (zI p1) 289 <| xck (zI p1) 289 <| xlet (xput q10 186 (zI p1).toNat ((q10 186 (zI p1).toNat) + 1)) fun s11 => some s11) fun J8 => if (zI p1) = 4 then (m_X13_doughStatement n s6).bind fun s26 => J8 s26 else if (zI p1) = 5 then (m_X13_ovenStatement n s6).bind fun s25 => J8 s25 else if (zI p1) = 6 then xck 6 289 <| xck 6 289 <| xbS (m_X13_fresh n 191 7 (s6 186 (6 : Int).toNat) s6) fun v23 s22 => xck (zI (s6 186 (6 : Int).toNat)) 7 <| xlet (xput s22 191 (zI (s6 186 (6 : Int).toNat)).toNat v23) fun s24 => J8 s24 else if (zI p1) = 7 then (m_X13_streetStatement n s6).bind fun s21 => J8 s21 else if (zI p1) = 8 then xck 8 289 <| xbS (m_X13_number n 1 2000 s6) fun v19 s18 => xck (zI (166 + (s6 186 (8 : Int).toNat))) 289 <| xlet (xput s18 186 (zI (166 + (s6 186 (8 : Int).toNat))).toNat v19) fun s20 => J8 s20 else (m_X13_orderStatement n s6).bind fun s17 => J8 s17) fun J2 => if (zI (σ 186 (zI p1).toNat)) = (zI (m_X13_mostOf p1)) then (m_X13_faulty 5 (σ 184 11) σ).bind fun s28 => J2 s28 else J2 σ
set_option maxHeartbeats 4000000 in
set_option maxRecDepth 100000 in
theorem wk_X13_many {X : xX} {Qf : xS → State → Prop} {n : Nat} {p1 : Int} {σ : xS} (C : xCx X cX13_many "BakeryNightModel" none { frames := 11, cells := 0, slots := 0, locals := 239 } 2) (hQ : ∀ τ, Qf τ = xQf X WW (none, τ))  : WO X Qf WW σ 0 [(0, .ref ((xXE X).2.2 + 184)), (1, iV p1)] [] (m_X13_many n p1 σ) := by
  unfold m_X13_many
  refine x_aload_n C 0 dX13_many_0 rfl rfl ?_
  refine x_get (v := .ref ((xXE X).2.2 + 186)) C 1 cls_X13 at_X13 (by decide) wd1503 rfl (xV_r (rt_X13_draft  _) rfl) dX13_many_1 ?_
  refine x_iload_n C 1 dX13_many_4 rfl rfl ?_
  refine x_iald C at_X13_draft rfl dX13_many_5 (fun _ => ?_)
  refine x_aload_n C 0 dX13_many_6 rfl rfl ?_
  refine x_iload_n C 1 dX13_many_7 rfl rfl ?_
  refine x_callV C (ct_X13_mostOf _ _ p1 σ) mt_X13_mostOf vr_X13_mostOf wd1768 cls_X13 at_X13 rfl ⟨rfl, rfl, Nat.le_of_ble_eq_true rfl, Nat.le_of_ble_eq_true rfl⟩ rfl (Nat.le_of_ble_eq_true rfl) dX13_many_8 (kP ?_)
  refine x_join (fun J => ∀ q4 : xS, WO X Qf WW q4 23 [(0, .ref ((xXE X).2.2 + 184)), (1, iV p1)] [] (J q4)) ?_ ?_
  · intro q4
    refine x_aload_n C 0 dX13_many_23 rfl rfl ?_
    refine x_callV C (ct_X13_fine _ _ q4) mt_X13_fine vr_X13_fine wd1700 cls_X13 at_X13 rfl ⟨rfl, rfl, Nat.le_of_ble_eq_true rfl, Nat.le_of_ble_eq_true rfl⟩ rfl (by decide) dX13_many_24 (kP ?_)
    refine x_if_ne C 31 (zI_bo (bo_X13_fine _)) dX13_many_27 rfl (fun c5 => x_on c5 ?_) (fun c5 => x_op c5 ?_)
    · refine x_aload_n C 0 dX13_many_31 rfl rfl ?_
      refine x_callV C (ct_X13_skipsWord _ _ n q4) mt_X13_skipsWord vr_X13_skipsWord wd1754 cls_X13 at_X13 rfl ⟨rfl, rfl, Nat.le_of_ble_eq_true rfl, Nat.le_of_ble_eq_true rfl⟩ rfl (by decide) dX13_many_32 (kV (fun s6 => ?_))
      refine x_iload_n C 1 dX13_many_35 rfl rfl ?_
      refine x_iconst C (4) dX13_many_36 rfl ?_
      refine x_join (fun J => ∀ q10 : xS, WO X Qf WW q10 145 [(0, .ref ((xXE X).2.2 + 184)), (1, iV p1)] [] (J q10)) ?_ ?_
      · intro q10
        refine x_aload_n C 0 dX13_many_145 rfl rfl ?_
        refine x_get (v := .ref ((xXE X).2.2 + 186)) C 1 cls_X13 at_X13 (by decide) wd1503 rfl (xV_r (rt_X13_draft  _) rfl) dX13_many_146 ?_
        refine x_iload_n C 1 dX13_many_149 rfl rfl ?_
        refine x_aload_n C 0 dX13_many_150 rfl rfl ?_
        refine x_get (v := .ref ((xXE X).2.2 + 186)) C 1 cls_X13 at_X13 (by decide) wd1503 rfl (xV_r (rt_X13_draft  _) rfl) dX13_many_151 ?_
        refine x_iload_n C 1 dX13_many_154 rfl rfl ?_
        refine x_iald C at_X13_draft rfl dX13_many_155 (fun _ => ?_)
        refine x_iconst C (1) dX13_many_156 rfl ?_
        refine x_iadd C dX13_many_157 ?_
        refine x_iast C at_X13_draft rfl dX13_many_158 (fun _ => ?_)
        refine x_letS (fun s11 => ?_)
        exact x_vretQ C (hQ _) rfl dX13_many_159
      · intro J8 hJ9
        refine x_icmp_ne C 47 rfl (zIl _ rfl) dX13_many_37 rfl (fun c12 => x_on c12 ?_) (fun c12 => x_op c12 ?_)
        · refine x_iload_n C 1 dX13_many_47 rfl rfl ?_
          refine x_iconst C (5) dX13_many_48 rfl ?_
          refine x_icmp_ne C 59 rfl (zIl _ rfl) dX13_many_49 rfl (fun c13 => x_on c13 ?_) (fun c13 => x_op c13 ?_)
          · refine x_iload_n C 1 dX13_many_59 rfl rfl ?_
            refine x_bipush C (6) dX13_many_60 rfl ?_
            refine x_icmp_ne C 95 rfl (zIl _ rfl) dX13_many_62 rfl (fun c14 => x_on c14 ?_) (fun c14 => x_op c14 ?_)
            · refine x_iload_n C 1 dX13_many_95 rfl rfl ?_
              refine x_bipush C (7) dX13_many_96 rfl ?_
              refine x_icmp_ne C 108 rfl (zIl _ rfl) dX13_many_98 rfl (fun c15 => x_on c15 ?_) (fun c15 => x_op c15 ?_)
              · refine x_iload_n C 1 dX13_many_108 rfl rfl ?_
                refine x_bipush C (8) dX13_many_109 rfl ?_
                refine x_icmp_ne C 141 rfl (zIl _ rfl) dX13_many_111 rfl (fun c16 => x_on c16 ?_) (fun c16 => x_op c16 ?_)
                · refine x_aload_n C 0 dX13_many_141 rfl rfl ?_
                  refine x_callV C (ct_X13_orderStatement _ _ n s6) mt_X13_orderStatement vr_X13_orderStatement wd1839 cls_X13 at_X13 rfl ⟨rfl, rfl, Nat.le_of_ble_eq_true rfl, Nat.le_of_ble_eq_true rfl⟩ rfl (by decide) dX13_many_142 (kV (fun s17 => ?_))
                  refine x_pick [0, 1] rfl ?_
                  exact hJ9 s17
                · refine x_aload_n C 0 dX13_many_114 rfl rfl ?_
                  refine x_get (v := .ref ((xXE X).2.2 + 186)) C 1 cls_X13 at_X13 (by decide) wd1503 rfl (xV_r (rt_X13_draft  _) rfl) dX13_many_115 ?_
                  refine x_sipush C (166) dX13_many_118 rfl ?_
                  refine x_aload_n C 0 dX13_many_121 rfl rfl ?_
                  refine x_get (v := .ref ((xXE X).2.2 + 186)) C 1 cls_X13 at_X13 (by decide) wd1503 rfl (xV_r (rt_X13_draft  _) rfl) dX13_many_122 ?_
                  refine x_bipush C (8) dX13_many_125 rfl ?_
                  refine x_iald C at_X13_draft (zIl _ rfl) dX13_many_127 (fun _ => ?_)
                  refine x_iadd C dX13_many_128 ?_
                  refine x_aload_n C 0 dX13_many_129 rfl rfl ?_
                  refine x_iconst C (1) dX13_many_130 rfl ?_
                  refine x_sipush C (2000) dX13_many_131 rfl ?_
                  refine x_callV C (ct_X13_number _ _ n 1 2000 s6) mt_X13_number vr_X13_number wd1758 cls_X13 at_X13 rfl ⟨rfl, rfl, Nat.le_of_ble_eq_true rfl, Nat.le_of_ble_eq_true rfl⟩ rfl (Nat.le_of_ble_eq_true rfl) dX13_many_134 (kS (fun v19 s18 => ?_))
                  refine x_iast C at_X13_draft rfl dX13_many_137 (fun _ => ?_)
                  refine x_letS (fun s20 => ?_)
                  refine x_goto C 145 dX13_many_138 rfl ?_
                  refine x_pick [0, 1] rfl ?_
                  exact hJ9 s20
              · refine x_aload_n C 0 dX13_many_101 rfl rfl ?_
                refine x_callV C (ct_X13_streetStatement _ _ n s6) mt_X13_streetStatement vr_X13_streetStatement wd1823 cls_X13 at_X13 rfl ⟨rfl, rfl, Nat.le_of_ble_eq_true rfl, Nat.le_of_ble_eq_true rfl⟩ rfl (by decide) dX13_many_102 (kV (fun s21 => ?_))
                refine x_goto C 145 dX13_many_105 rfl ?_
                refine x_pick [0, 1] rfl ?_
                exact hJ9 s21
            · refine x_aload_n C 0 dX13_many_65 rfl rfl ?_
              refine x_get (v := .ref ((xXE X).2.2 + 191)) C 16 cls_X13 at_X13 (by decide) wd1518 rfl (xV_r (rt_X13_shopName  _) rfl) dX13_many_66 ?_
              refine x_aload_n C 0 dX13_many_69 rfl rfl ?_
              refine x_get (v := .ref ((xXE X).2.2 + 186)) C 1 cls_X13 at_X13 (by decide) wd1503 rfl (xV_r (rt_X13_draft  _) rfl) dX13_many_70 ?_
              refine x_bipush C (6) dX13_many_73 rfl ?_
              refine x_iald C at_X13_draft (zIl _ rfl) dX13_many_75 (fun _ => ?_)
              refine x_aload_n C 0 dX13_many_76 rfl rfl ?_
              refine x_aload_n C 0 dX13_many_77 rfl rfl ?_
              refine x_get (v := .ref ((xXE X).2.2 + 191)) C 16 cls_X13 at_X13 (by decide) wd1518 rfl (xV_r (rt_X13_shopName  _) rfl) dX13_many_78 ?_
              refine x_aload_n C 0 dX13_many_81 rfl rfl ?_
              refine x_get (v := .ref ((xXE X).2.2 + 186)) C 1 cls_X13 at_X13 (by decide) wd1503 rfl (xV_r (rt_X13_draft  _) rfl) dX13_many_82 ?_
              refine x_bipush C (6) dX13_many_85 rfl ?_
              refine x_iald C at_X13_draft (zIl _ rfl) dX13_many_87 (fun _ => ?_)
              refine x_callV C (ct_X13_fresh _ _ n 191 7 (s6 186 (6 : Int).toNat) s6 at_X13_shopName) mt_X13_fresh vr_X13_fresh wd1776 cls_X13 at_X13 rfl ⟨rfl, rfl, Nat.le_of_ble_eq_true rfl, Nat.le_of_ble_eq_true rfl⟩ rfl (Nat.le_of_ble_eq_true rfl) dX13_many_88 (kT (fun v23 s22 => ?_))
              refine x_last C at_X13_shopName rfl dX13_many_91 (fun _ => ?_)
              refine x_letS (fun s24 => ?_)
              refine x_goto C 145 dX13_many_92 rfl ?_
              refine x_pick [0, 1] rfl ?_
              exact hJ9 s24
          · refine x_aload_n C 0 dX13_many_52 rfl rfl ?_
            refine x_callV C (ct_X13_ovenStatement _ _ n s6) mt_X13_ovenStatement vr_X13_ovenStatement wd1819 cls_X13 at_X13 rfl ⟨rfl, rfl, Nat.le_of_ble_eq_true rfl, Nat.le_of_ble_eq_true rfl⟩ rfl (by decide) dX13_many_53 (kV (fun s25 => ?_))
            refine x_goto C 145 dX13_many_56 rfl ?_
            refine x_pick [0, 1] rfl ?_
            exact hJ9 s25
        · refine x_aload_n C 0 dX13_many_40 rfl rfl ?_
          refine x_callV C (ct_X13_doughStatement _ _ n s6) mt_X13_doughStatement vr_X13_doughStatement wd1772 cls_X13 at_X13 rfl ⟨rfl, rfl, Nat.le_of_ble_eq_true rfl, Nat.le_of_ble_eq_true rfl⟩ rfl (by decide) dX13_many_41 (kV (fun s26 => ?_))
          refine x_goto C 145 dX13_many_44 rfl ?_
          refine x_pick [0, 1] rfl ?_
          exact hJ9 s26
    · exact x_vretQ C (hQ _) rfl dX13_many_30
  · intro J2 hJ3
    refine x_icmp_ne C 23 rfl rfl dX13_many_11 rfl (fun c27 => x_on c27 ?_) (fun c27 => x_op c27 ?_)
    · refine x_pick [0, 1] rfl ?_
      exact hJ3 σ
    · refine x_aload_n C 0 dX13_many_14 rfl rfl ?_
      refine x_iconst C (5) dX13_many_15 rfl ?_
      refine x_aload_n C 0 dX13_many_16 rfl rfl ?_
      refine x_get (v := iV (σ 184 11)) C 11 cls_X13 at_X13 (by decide) wd1513 rfl rfl dX13_many_17 ?_
      refine x_callV C (ct_X13_faulty _ _ 5 (σ 184 11) σ) mt_X13_faulty vr_X13_faulty wd1750 cls_X13 at_X13 rfl ⟨rfl, rfl, Nat.le_of_ble_eq_true rfl, Nat.le_of_ble_eq_true rfl⟩ rfl (by decide) dX13_many_20 (kV (fun s28 => ?_))
      refine x_pick [0, 1] rfl ?_
      exact hJ3 s28
theorem ct_X13_many (l : Launch) (E : xE) (n : Nat) (p1 : Int) (σ : xS)   : xMet l E yX13_many cX13_many 2 none { frames := 11, cells := 0, slots := 0, locals := 239 } [.ref (E.2.2 + 184), iV p1] WW WW σ (xrV (m_X13_many n p1 σ)) := by
  refine xMet.of0 (by decide) (Nat.le_of_ble_eq_true rfl) rfl rfl (fun X hE C => ?_)
  subst hE
  exact xMap (fun q => (none, q)) (wk_X13_many C (fun _ => rfl) )
theorem mt_X13_many : xMth yX13_many cX13_many 2 none 1 := ⟨wd1767, wd164, ⟨by decide, by decide, rfl⟩⟩
theorem vr_X13_many : xVir yX13_many := ⟨wd1766, wd66⟩
def m_X13_statement (n : Nat) (σ : xS) : Option xS :=
  (m_X13_singleHere n σ).bind fun v1 => (m_X13_manyHere n σ).bind fun v2 => xj (fun (q6 : xS) => (m_X13_semicolon n q6).bind fun s7 => some s7) fun J4 => if (zI v1) = (-1) then if (zI v2) = (-1) then (m_X13_faulty 1 (σ 184 11) σ).bind fun s10 => J4 s10 else (m_X13_many n v2 σ).bind fun s11 => J4 s11 else (m_X13_single n v1 σ).bind fun s12 => J4 s12
set_option maxHeartbeats 4000000 in
set_option maxRecDepth 100000 in
theorem wk_X13_statement {X : xX} {Qf : xS → State → Prop} {n : Nat} {σ : xS} (C : xCx X cX13_statement "BakeryNightModel" none { frames := 12, cells := 0, slots := 0, locals := 260 } 3) (hQ : ∀ τ, Qf τ = xQf X WW (none, τ))  : WO X Qf WW σ 0 [(0, .ref ((xXE X).2.2 + 184))] [] (m_X13_statement n σ) := by
  unfold m_X13_statement
  refine x_aload_n C 0 dX13_statement_0 rfl rfl ?_
  refine x_callV C (ct_X13_singleHere _ _ n σ) mt_X13_singleHere vr_X13_singleHere wd1708 cls_X13 at_X13 rfl ⟨rfl, rfl, Nat.le_of_ble_eq_true rfl, Nat.le_of_ble_eq_true rfl⟩ rfl (by decide) dX13_statement_1 (kI (fun v1 => ?_))
  refine x_istore_n (L' := [(1, _), (0, _)]) C dX13_statement_4 rfl (by decide) rfl ?_
  refine x_aload_n C 1 dX13_statement_5 rfl rfl ?_
  refine x_callV C (ct_X13_manyHere _ _ n σ) mt_X13_manyHere vr_X13_manyHere wd1732 cls_X13 at_X13 rfl ⟨rfl, rfl, Nat.le_of_ble_eq_true rfl, Nat.le_of_ble_eq_true rfl⟩ rfl (by decide) dX13_statement_6 (kI (fun v2 => ?_))
  refine x_istore_n (L' := [(2, _), (1, _), (0, _)]) C dX13_statement_9 rfl (by decide) rfl ?_
  refine x_iload_n C 1 dX13_statement_10 rfl rfl ?_
  refine x_iconst C (-1) dX13_statement_11 rfl ?_
  refine x_join (fun J => ∀ q6 : xS, WO X Qf WW q6 45 [(0, .ref ((xXE X).2.2 + 184))] [] (J q6)) ?_ ?_
  · intro q6
    refine x_aload_n C 0 dX13_statement_45 rfl rfl ?_
    refine x_callV C (ct_X13_semicolon _ _ n q6) mt_X13_semicolon vr_X13_semicolon wd1843 cls_X13 at_X13 rfl ⟨rfl, rfl, Nat.le_of_ble_eq_true rfl, Nat.le_of_ble_eq_true rfl⟩ rfl (by decide) dX13_statement_46 (kV (fun s7 => ?_))
    exact x_vretQ C (hQ _) rfl dX13_statement_49
  · intro J4 hJ5
    refine x_icmp_eq C 23 rfl (zIl _ rfl) dX13_statement_12 rfl (fun c8 => x_op c8 ?_) (fun c8 => x_on c8 ?_)
    · refine x_iload_n C 0 dX13_statement_23 rfl rfl ?_
      refine x_iconst C (-1) dX13_statement_24 rfl ?_
      refine x_icmp_eq C 36 rfl (zIl _ rfl) dX13_statement_25 rfl (fun c9 => x_op c9 ?_) (fun c9 => x_on c9 ?_)
      · refine x_aload_n C 2 dX13_statement_36 rfl rfl ?_
        refine x_iconst C (1) dX13_statement_37 rfl ?_
        refine x_aload_n C 2 dX13_statement_38 rfl rfl ?_
        refine x_get (v := iV (σ 184 11)) C 11 cls_X13 at_X13 (by decide) wd1513 rfl rfl dX13_statement_39 ?_
        refine x_callV C (ct_X13_faulty _ _ 1 (σ 184 11) σ) mt_X13_faulty vr_X13_faulty wd1750 cls_X13 at_X13 rfl ⟨rfl, rfl, Nat.le_of_ble_eq_true rfl, Nat.le_of_ble_eq_true rfl⟩ rfl (by decide) dX13_statement_42 (kV (fun s10 => ?_))
        refine x_pick [2] rfl ?_
        exact hJ5 s10
      · refine x_aload_n C 2 dX13_statement_28 rfl rfl ?_
        refine x_iload_n C 0 dX13_statement_29 rfl rfl ?_
        refine x_callV C (ct_X13_many _ _ n v2 σ) mt_X13_many vr_X13_many wd1764 cls_X13 at_X13 rfl ⟨rfl, rfl, Nat.le_of_ble_eq_true rfl, Nat.le_of_ble_eq_true rfl⟩ rfl (by decide) dX13_statement_30 (kV (fun s11 => ?_))
        refine x_goto C 45 dX13_statement_33 rfl ?_
        refine x_pick [2] rfl ?_
        exact hJ5 s11
    · refine x_aload_n C 2 dX13_statement_15 rfl rfl ?_
      refine x_iload_n C 1 dX13_statement_16 rfl rfl ?_
      refine x_callV C (ct_X13_single _ _ n v1 σ) mt_X13_single vr_X13_single wd1742 cls_X13 at_X13 rfl ⟨rfl, rfl, Nat.le_of_ble_eq_true rfl, Nat.le_of_ble_eq_true rfl⟩ rfl (by decide) dX13_statement_17 (kV (fun s12 => ?_))
      refine x_goto C 45 dX13_statement_20 rfl ?_
      refine x_pick [2] rfl ?_
      exact hJ5 s12
theorem ct_X13_statement (l : Launch) (E : xE) (n : Nat) (σ : xS)   : xMet l E yX13_statement cX13_statement 3 none { frames := 12, cells := 0, slots := 0, locals := 260 } [.ref (E.2.2 + 184)] WW WW σ (xrV (m_X13_statement n σ)) := by
  refine xMet.of0 (by decide) (Nat.le_of_ble_eq_true rfl) rfl rfl (fun X hE C => ?_)
  subst hE
  exact xMap (fun q => (none, q)) (wk_X13_statement C (fun _ => rfl) )
theorem mt_X13_statement : xMth yX13_statement cX13_statement 3 none 0 := ⟨wd1707, wd164, ⟨by decide, by decide, rfl⟩⟩
theorem vr_X13_statement : xVir yX13_statement := ⟨wd1706, wd55⟩
def m_X13_parseBakery (n : Nat) (σ : xS) : Option (Int × xS) :=
  xlet (xput σ 184 7 0) fun s1 => xlet (xput s1 184 10 (s1 184 9)) fun s2 => xlet (xput s2 184 9 0) fun s3 => xlet (xput s3 184 11 0) fun s4 => xlet (xput s4 184 12 0) fun s5 => xlet (xput s5 184 13 (-1)) fun s6 => xlet (xput s6 184 17 0) fun s7 => (m_X13_empties n 186 s7).bind fun s8 => (m_X13_skips n s8).bind fun s9 => loopF (fun rec11 (t10 : Int × xS) => xj (fun (q16 : Unit) => if (m_X13_fine t10.2) = 0 then some ((-1), t10.2) else (m_X13_copies n 186 185 t10.2).bind fun s18 => xlet (xput s18 184 4 0) fun s19 => xlet (xput s19 184 5 0) fun s20 => some (t10.1, s20)) fun J14 => if (m_X13_fine t10.2) = 0 then J14 () else if (zI (t10.2 184 10)) ≤ (zI (t10.2 184 11)) then J14 () else (m_X13_statement n t10.2).bind fun s23 => xlet (t10.1 + 1) fun v24 => rec11 (v24, s23)) n (0, s9)
set_option maxHeartbeats 4000000 in
set_option maxRecDepth 100000 in
theorem wk_X13_parseBakery {X : xX} {Qf : (Int × xS) → State → Prop} {n : Nat} {σ : xS} (C : xCx X cX13_parseBakery "BakeryNightModel" (some .int) { frames := 13, cells := 0, slots := 0, locals := 282 } 2) (hQ : ∀ v τ, Qf (v, τ) = xQf X WW (some (iV v), τ))  : WO X Qf WW σ 0 [(0, .ref ((xXE X).2.2 + 184))] [] (m_X13_parseBakery n σ) := by
  unfold m_X13_parseBakery
  refine x_aload_n C 0 dX13_parseBakery_0 rfl rfl ?_
  refine x_iconst C (0) dX13_parseBakery_1 rfl ?_
  refine x_put C 7 0 cls_X13 at_X13 (by decide) wd1509 rfl rfl rfl rfl (xV_pI rfl) dX13_parseBakery_2 ?_
  refine x_letS (fun s1 => ?_)
  refine x_aload_n C 0 dX13_parseBakery_5 rfl rfl ?_
  refine x_aload_n C 0 dX13_parseBakery_6 rfl rfl ?_
  refine x_get (v := iV (s1 184 9)) C 9 cls_X13 at_X13 (by decide) wd1511 rfl rfl dX13_parseBakery_7 ?_
  refine x_put C 10 (s1 184 9) cls_X13 at_X13 (by decide) wd1512 rfl rfl rfl rfl (xV_pI rfl) dX13_parseBakery_10 ?_
  refine x_letS (fun s2 => ?_)
  refine x_aload_n C 0 dX13_parseBakery_13 rfl rfl ?_
  refine x_iconst C (0) dX13_parseBakery_14 rfl ?_
  refine x_put C 9 0 cls_X13 at_X13 (by decide) wd1511 rfl rfl rfl rfl (xV_pI rfl) dX13_parseBakery_15 ?_
  refine x_letS (fun s3 => ?_)
  refine x_aload_n C 0 dX13_parseBakery_18 rfl rfl ?_
  refine x_iconst C (0) dX13_parseBakery_19 rfl ?_
  refine x_put C 11 0 cls_X13 at_X13 (by decide) wd1513 rfl rfl rfl rfl (xV_pI rfl) dX13_parseBakery_20 ?_
  refine x_letS (fun s4 => ?_)
  refine x_aload_n C 0 dX13_parseBakery_23 rfl rfl ?_
  refine x_iconst C (0) dX13_parseBakery_24 rfl ?_
  refine x_put C 12 0 cls_X13 at_X13 (by decide) wd1514 rfl rfl rfl rfl (xV_pI rfl) dX13_parseBakery_25 ?_
  refine x_letS (fun s5 => ?_)
  refine x_aload_n C 0 dX13_parseBakery_28 rfl rfl ?_
  refine x_iconst C (-1) dX13_parseBakery_29 rfl ?_
  refine x_put C 13 (-1) cls_X13 at_X13 (by decide) wd1515 rfl rfl rfl rfl (xV_pI rfl) dX13_parseBakery_30 ?_
  refine x_letS (fun s6 => ?_)
  refine x_aload_n C 0 dX13_parseBakery_33 rfl rfl ?_
  refine x_iconst C (0) dX13_parseBakery_34 rfl ?_
  refine x_put C 17 0 cls_X13 at_X13 (by decide) wd1519 rfl rfl rfl rfl (xV_pI rfl) dX13_parseBakery_35 ?_
  refine x_letS (fun s7 => ?_)
  refine x_aload_n C 0 dX13_parseBakery_38 rfl rfl ?_
  refine x_aload_n C 0 dX13_parseBakery_39 rfl rfl ?_
  refine x_get (v := .ref ((xXE X).2.2 + 186)) C 1 cls_X13 at_X13 (by decide) wd1503 rfl (xV_r (rt_X13_draft  _) rfl) dX13_parseBakery_40 ?_
  refine x_callV C (ct_X13_empties _ _ n 186 s7 at_X13_draft) mt_X13_empties vr_X13_empties wd1498 cls_X13 at_X13 rfl ⟨rfl, rfl, Nat.le_of_ble_eq_true rfl, Nat.le_of_ble_eq_true rfl⟩ rfl (by decide) dX13_parseBakery_43 (kV (fun s8 => ?_))
  refine x_aload_n C 0 dX13_parseBakery_46 rfl rfl ?_
  refine x_callV C (ct_X13_skips _ _ n s8) mt_X13_skips vr_X13_skips wd1688 cls_X13 at_X13 rfl ⟨rfl, rfl, Nat.le_of_ble_eq_true rfl, Nat.le_of_ble_eq_true rfl⟩ rfl (by decide) dX13_parseBakery_47 (kV (fun s9 => ?_))
  refine x_iconst C (0) dX13_parseBakery_50 rfl ?_
  refine x_istore_n (L' := [(1, _), (0, _)]) C dX13_parseBakery_51 rfl (by decide) rfl ?_
  refine x_pick [1, 0] rfl ?_
  refine x_loop (fun t10 : Int × xS => t10.2) (fun t10 : Int × xS => [(0, .ref ((xXE X).2.2 + 184)), (1, iV t10.1)]) (fun rec11 hr12 t10 => ?_) n (0, s9)
  refine x_aload_n C 0 dX13_parseBakery_52 rfl rfl ?_
  refine x_callV C (ct_X13_fine _ _ t10.2) mt_X13_fine vr_X13_fine wd1700 cls_X13 at_X13 rfl ⟨rfl, rfl, Nat.le_of_ble_eq_true rfl, Nat.le_of_ble_eq_true rfl⟩ rfl (by decide) dX13_parseBakery_53 (kP ?_)
  refine x_join (fun J => ∀ q16 : Unit, WO X Qf WW t10.2 81 [(0, .ref ((xXE X).2.2 + 184)), (1, iV t10.1)] [] (J q16)) ?_ ?_
  · intro q16
    refine x_aload_n C 0 dX13_parseBakery_81 rfl rfl ?_
    refine x_callV C (ct_X13_fine _ _ t10.2) mt_X13_fine vr_X13_fine wd1700 cls_X13 at_X13 rfl ⟨rfl, rfl, Nat.le_of_ble_eq_true rfl, Nat.le_of_ble_eq_true rfl⟩ rfl (by decide) dX13_parseBakery_82 (kP ?_)
    refine x_if_ne C 90 (zI_bo (bo_X13_fine _)) dX13_parseBakery_85 rfl (fun c17 => x_on c17 ?_) (fun c17 => x_op c17 ?_)
    · refine x_aload_n C 0 dX13_parseBakery_90 rfl rfl ?_
      refine x_aload_n C 0 dX13_parseBakery_91 rfl rfl ?_
      refine x_get (v := .ref ((xXE X).2.2 + 186)) C 1 cls_X13 at_X13 (by decide) wd1503 rfl (xV_r (rt_X13_draft  _) rfl) dX13_parseBakery_92 ?_
      refine x_aload_n C 0 dX13_parseBakery_95 rfl rfl ?_
      refine x_get (v := .ref ((xXE X).2.2 + 185)) C 0 cls_X13 at_X13 (by decide) wd1502 rfl (xV_r (rt_X13_bakery  _) rfl) dX13_parseBakery_96 ?_
      refine x_callV C (ct_X13_copies _ _ n 186 185 t10.2 at_X13_draft at_X13_bakery) mt_X13_copies vr_X13_copies wd1847 cls_X13 at_X13 rfl ⟨rfl, rfl, Nat.le_of_ble_eq_true rfl, Nat.le_of_ble_eq_true rfl⟩ rfl (by decide) dX13_parseBakery_99 (kV (fun s18 => ?_))
      refine x_aload_n C 0 dX13_parseBakery_102 rfl rfl ?_
      refine x_iconst C (0) dX13_parseBakery_103 rfl ?_
      refine x_put C 4 0 cls_X13 at_X13 (by decide) wd1506 rfl rfl rfl rfl (xV_pI rfl) dX13_parseBakery_104 ?_
      refine x_letS (fun s19 => ?_)
      refine x_aload_n C 0 dX13_parseBakery_107 rfl rfl ?_
      refine x_iconst C (0) dX13_parseBakery_108 rfl ?_
      refine x_put C 5 0 cls_X13 at_X13 (by decide) wd1507 rfl rfl (xnb (Or.inl rfl)) (xfb (Or.inl rfl)) (xV_pI rfl) dX13_parseBakery_109 ?_
      refine x_letS (fun s20 => ?_)
      refine x_iload_n C 1 dX13_parseBakery_112 rfl rfl ?_
      exact x_iretQ C (hQ _ _) rfl dX13_parseBakery_113
    · refine x_iconst C (-1) dX13_parseBakery_88 rfl ?_
      exact x_iretQ C (hQ _ _) rfl dX13_parseBakery_89
  · intro J14 hJ15
    refine x_if_eq C 81 (zI_bo (bo_X13_fine _)) dX13_parseBakery_56 rfl (fun c21 => x_op c21 ?_) (fun c21 => x_on c21 ?_)
    · refine x_pick [0, 1] rfl ?_
      exact hJ15 ()
    · refine x_aload_n C 0 dX13_parseBakery_59 rfl rfl ?_
      refine x_get (v := iV (t10.2 184 11)) C 11 cls_X13 at_X13 (by decide) wd1513 rfl rfl dX13_parseBakery_60 ?_
      refine x_aload_n C 0 dX13_parseBakery_63 rfl rfl ?_
      refine x_get (v := iV (t10.2 184 10)) C 10 cls_X13 at_X13 (by decide) wd1512 rfl rfl dX13_parseBakery_64 ?_
      refine x_icmp_ge C 81 rfl rfl dX13_parseBakery_67 rfl (fun c22 => x_op c22 ?_) (fun c22 => x_on c22 ?_)
      · refine x_pick [0, 1] rfl ?_
        exact hJ15 ()
      · refine x_aload_n C 0 dX13_parseBakery_70 rfl rfl ?_
        refine x_callV C (ct_X13_statement _ _ n t10.2) mt_X13_statement vr_X13_statement wd1704 cls_X13 at_X13 rfl ⟨rfl, rfl, Nat.le_of_ble_eq_true rfl, Nat.le_of_ble_eq_true rfl⟩ rfl (by decide) dX13_parseBakery_71 (kV (fun s23 => ?_))
        refine x_iload_n C 1 dX13_parseBakery_74 rfl rfl ?_
        refine x_iconst C (1) dX13_parseBakery_75 rfl ?_
        refine x_iadd C dX13_parseBakery_76 ?_
        refine x_letI (fun v24 => ?_)
        refine x_istore_n (L' := [(1, _), (0, _)]) C dX13_parseBakery_77 rfl (by decide) rfl ?_
        refine x_goto C 52 dX13_parseBakery_78 rfl ?_
        refine x_pick [1, 0] rfl ?_
        exact hr12 (v24, s23)
theorem ct_X13_parseBakery (l : Launch) (E : xE) (n : Nat) (σ : xS)   : xMet l E yX13_parseBakery cX13_parseBakery 2 (some .int) { frames := 13, cells := 0, slots := 0, locals := 282 } [.ref (E.2.2 + 184)] WW WW σ (xrS (m_X13_parseBakery n σ)) := by
  refine xMet.of0 (by decide) (Nat.le_of_ble_eq_true rfl) rfl rfl (fun X hE C => ?_)
  subst hE
  exact xMap (fun q => (some (iV q.1), q.2)) (wk_X13_parseBakery C (fun _ _ => rfl) )
theorem mt_X13_parseBakery : xMth yX13_parseBakery cX13_parseBakery 2 (some .int) 0 := ⟨wd1687, wd164, ⟨by decide, by decide, rfl⟩⟩
theorem vr_X13_parseBakery : xVir yX13_parseBakery := ⟨wd1685, wd1686⟩
