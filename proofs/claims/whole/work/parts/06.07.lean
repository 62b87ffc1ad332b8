def m_X13_shelvesUsed (n : Nat) (p1 : Int) (p2 : Int) (σ : xS) : Option (Int × xS) :=
  xbS (m_X13_isNight n σ) fun v2 s1 => if (zI v2) = 0 then some ((-2), s1) else (m_X13_isOven p1 s1).bind fun v4 => if (zI v4) = 0 then some ((-1), s1) else loopF (fun rec7 (t6 : Int × Int) => xj (fun (q11 : Unit) => some (t6.1, s1)) fun J9 => if (zI (s1 184 19)) ≤ (zI t6.2) then J9 () else if (zI p2) < (zI (s1 184 6)) then J9 () else xck (zI t6.2) 60 <| xj (fun (q18 : Int) => xlet (t6.1 + q18) fun v19 => xlet (t6.2 + 1) fun v20 => rec7 (v19, v20)) fun J16 => xj (fun (q23 : Unit) => J16 0) fun J21 => if (zI (s1 196 (zI t6.2).toNat)) = (zI p1) then (m_X13_uses t6.2 2 (p2 - (s1 184 6)) s1).bind fun v25 => if (zI v25) = 0 then J21 () else J16 1 else J21 ()) n (0, 0)
set_option maxHeartbeats 4000000 in
set_option maxRecDepth 100000 in
theorem wk_X13_shelvesUsed {X : xX} {Qf : (Int × xS) → State → Prop} {n : Nat} {p1 : Int} {p2 : Int} {σ : xS} (C : xCx X cX13_shelvesUsed "BakeryNightModel" (some .int) { frames := 8, cells := 0, slots := 0, locals := 180 } 5) (hQ : ∀ v τ, Qf (v, τ) = xQf X WW (some (iV v), τ))  : WO X Qf WW σ 0 [(0, .ref (xqa (xXE X).2.2 184)), (1, iV p1), (2, iV p2)] [] (m_X13_shelvesUsed n p1 p2 σ) := by
  unfold m_X13_shelvesUsed
  refine x_aload_n C 0 dX13_shelvesUsed_0 rfl rfl ?_
  refine x_callV C (ct_X13_isNight _ _ n σ) mt_X13_isNight vr_X13_isNight wd2005 cls_X13 at_X13 rfl ⟨rfl, rfl, Nat.le_of_ble_eq_true rfl, Nat.le_of_ble_eq_true rfl⟩ rfl (by decide) dX13_shelvesUsed_1 (kS (fun v2 s1 => ?_))
  refine x_if_ne C 10 rfl dX13_shelvesUsed_4 rfl (fun c3 => x_on c3 ?_) (fun c3 => x_op c3 ?_)
  · refine x_aload_n C 0 dX13_shelvesUsed_10 rfl rfl ?_
    refine x_iload_n C 1 dX13_shelvesUsed_11 rfl rfl ?_
    refine x_callV C (ct_X13_isOven _ _ p1 s1) mt_X13_isOven vr_X13_isOven wd2034 cls_X13 at_X13 rfl ⟨rfl, rfl, Nat.le_of_ble_eq_true rfl, Nat.le_of_ble_eq_true rfl⟩ rfl (by decide) dX13_shelvesUsed_12 (kI (fun v4 => ?_))
    refine x_if_ne C 20 rfl dX13_shelvesUsed_15 rfl (fun c5 => x_on c5 ?_) (fun c5 => x_op c5 ?_)
    · refine x_iconst C (0) dX13_shelvesUsed_20 rfl ?_
      refine x_istore_n (L' := [(3, _), (0, _), (1, _), (2, _)]) C dX13_shelvesUsed_21 rfl (by decide) rfl ?_
      refine x_iconst C (0) dX13_shelvesUsed_22 rfl ?_
      refine x_istore (L' := [(4, _), (3, _), (0, _), (1, _), (2, _)]) C dX13_shelvesUsed_23 (by decide) rfl ?_
      refine x_pick [2, 3, 4, 1, 0] rfl ?_
      refine x_loop (fun t6 : Int × Int => s1) (fun t6 : Int × Int => [(0, .ref (xqa (xXE X).2.2 184)), (1, iV p1), (2, iV p2), (3, iV t6.1), (4, iV t6.2)]) (fun rec7 hr8 t6 => ?_) n (0, 0)
      refine x_iload C 4 dX13_shelvesUsed_25 rfl ?_
      refine x_aload_n C 0 dX13_shelvesUsed_27 rfl rfl ?_
      refine x_get (v := iV (s1 184 19)) C 19 cls_X13 at_X13 (by decide) wd1521 rfl rfl dX13_shelvesUsed_28 ?_
      refine x_join (fun J => ∀ q11 : Unit, WO X Qf WW s1 83 [(3, iV t6.1)] [] (J q11)) ?_ ?_
      · intro q11
        refine x_iload_n C 0 dX13_shelvesUsed_83 rfl rfl ?_
        exact x_iretQ C (hQ _ _) rfl dX13_shelvesUsed_84
      · intro J9 hJ10
        refine x_icmp_ge C 83 rfl rfl dX13_shelvesUsed_31 rfl (fun c12 => x_op c12 ?_) (fun c12 => x_on c12 ?_)
        · refine x_pick [3] rfl ?_
          exact hJ10 ()
        · refine x_iload_n C 2 dX13_shelvesUsed_34 rfl rfl ?_
          refine x_aload_n C 0 dX13_shelvesUsed_35 rfl rfl ?_
          refine x_get (v := iV (s1 184 6)) C 6 cls_X13 at_X13 (by decide) wd1508 rfl rfl dX13_shelvesUsed_36 ?_
          refine x_icmp_lt C 83 rfl rfl dX13_shelvesUsed_39 rfl (fun c13 => x_op c13 ?_) (fun c13 => x_on c13 ?_)
          · refine x_pick [3] rfl ?_
            exact hJ10 ()
          · refine x_iload_n C 3 dX13_shelvesUsed_42 rfl rfl ?_
            refine x_aload_n C 0 dX13_shelvesUsed_43 rfl rfl ?_
            refine x_get (v := .ref (xqa (xXE X).2.2 196)) C 23 cls_X13 at_X13 (by decide) wd1525 rfl (xV_r (rt_X13_inOven  _) rfl) dX13_shelvesUsed_44 ?_
            refine x_iload C 4 dX13_shelvesUsed_47 rfl ?_
            refine x_iald C at_X13_inOven rfl dX13_shelvesUsed_49 (fun _ => ?_)
            refine x_iload_n C 1 dX13_shelvesUsed_50 rfl rfl ?_
            refine x_join (fun J => ∀ q18 : Int, WO X Qf WW s1 75 [(0, .ref (xqa (xXE X).2.2 184)), (1, iV p1), (2, iV p2), (4, iV t6.2)] [iV q18, iV t6.1] (J q18)) ?_ ?_
            · intro q18
              refine x_iadd C dX13_shelvesUsed_75 ?_
              refine x_letI (fun v19 => ?_)
              refine x_istore_n (L' := [(3, _), (0, _), (1, _), (2, _), (4, _)]) C dX13_shelvesUsed_76 rfl (by decide) rfl ?_
              refine x_inc C 4 (f := _) dX13_shelvesUsed_77 rfl (by decide) (1) rfl (fun v20 => ?_)
              refine x_reL (L' := [(4, _), (3, _), (0, _), (1, _), (2, _)]) rfl ?_
              refine x_goto C 25 dX13_shelvesUsed_80 rfl ?_
              refine x_pick [2, 3, 4, 1, 0] rfl ?_
              exact hr8 (v19, v20)
            · intro J16 hJ17
              refine x_join (fun J => ∀ q23 : Unit, WO X Qf WW s1 74 [(0, .ref (xqa (xXE X).2.2 184)), (1, iV p1), (2, iV p2), (4, iV t6.2)] [iV t6.1] (J q23)) ?_ ?_
              · intro q23
                refine x_iconst C (0) dX13_shelvesUsed_74 rfl ?_
                refine x_pick [0, 1, 2, 3] rfl ?_
                exact hJ17 0
              · intro J21 hJ22
                refine x_icmp_ne C 74 rfl rfl dX13_shelvesUsed_51 rfl (fun c24 => x_on c24 ?_) (fun c24 => x_op c24 ?_)
                · refine x_pick [0, 1, 2, 4] rfl ?_
                  exact hJ22 ()
                · refine x_aload_n C 0 dX13_shelvesUsed_54 rfl rfl ?_
                  refine x_iload C 4 dX13_shelvesUsed_55 rfl ?_
                  refine x_iconst C (2) dX13_shelvesUsed_57 rfl ?_
                  refine x_iload_n C 2 dX13_shelvesUsed_58 rfl rfl ?_
                  refine x_aload_n C 0 dX13_shelvesUsed_59 rfl rfl ?_
                  refine x_get (v := iV (s1 184 6)) C 6 cls_X13 at_X13 (by decide) wd1508 rfl rfl dX13_shelvesUsed_60 ?_
                  refine x_isub C dX13_shelvesUsed_63 ?_
                  refine x_callV C (ct_X13_uses _ _ t6.2 2 (p2 - (s1 184 6)) s1) mt_X13_uses vr_X13_uses wd2050 cls_X13 at_X13 rfl ⟨rfl, rfl, Nat.le_of_ble_eq_true rfl, Nat.le_of_ble_eq_true rfl⟩ rfl (Nat.le_of_ble_eq_true rfl) dX13_shelvesUsed_64 (kI (fun v25 => ?_))
                  refine x_if_eq C 74 rfl dX13_shelvesUsed_67 rfl (fun c26 => x_op c26 ?_) (fun c26 => x_on c26 ?_)
                  · refine x_pick [0, 1, 2, 4] rfl ?_
                    exact hJ22 ()
                  · refine x_iconst C (1) dX13_shelvesUsed_70 rfl ?_
                    refine x_goto C 75 dX13_shelvesUsed_71 rfl ?_
                    refine x_pick [0, 1, 2, 4] rfl ?_
                    exact hJ17 1
    · refine x_iconst C (-1) dX13_shelvesUsed_18 rfl ?_
      exact x_iretQ C (hQ _ _) rfl dX13_shelvesUsed_19
  · refine x_bipush C (-2) dX13_shelvesUsed_7 rfl ?_
    exact x_iretQ C (hQ _ _) rfl dX13_shelvesUsed_9
theorem ct_X13_shelvesUsed (l : Launch) (E : xE) (n : Nat) (p1 : Int) (p2 : Int) (σ : xS)   : xMet l E yX13_shelvesUsed cX13_shelvesUsed 5 (some .int) { frames := 8, cells := 0, slots := 0, locals := 180 } [.ref (xqa E.2.2 184), iV p1, iV p2] WW WW σ (xrS (m_X13_shelvesUsed n p1 p2 σ)) := by
  refine xMet.of0 (by decide) (Nat.le_of_ble_eq_true rfl) rfl rfl (fun X hE C => ?_)
  subst hE
  exact xMap (fun q => (some (iV q.1), q.2)) (wk_X13_shelvesUsed C (fun _ _ => rfl) )
theorem mt_X13_shelvesUsed : xMth yX13_shelvesUsed cX13_shelvesUsed 5 (some .int) 2 := ⟨wd2049, wd164, ⟨by decide, by decide, rfl⟩⟩
theorem vr_X13_shelvesUsed : xVir yX13_shelvesUsed := ⟨wd2047, wd2048⟩
def m_X13_busy (n : Nat) (p1 : Int) (p2 : Int) (σ : xS) : Option (Int × xS) :=
  xbS (m_X13_isNight n σ) fun v2 s1 => if (zI v2) = 0 then some ((-2), s1) else if (m_X13_isIn (zI p1) 0 2) = 0 then some ((-1), s1) else xj (fun (q8 : Int) => some (q8, s1)) fun J6 => if (zI (s1 184 6)) ≤ (zI p2) then (m_X13_inUse n p1 (p2 - (s1 184 6)) s1).bind fun v10 => J6 v10 else J6 0
set_option maxHeartbeats 4000000 in
set_option maxRecDepth 100000 in
theorem wk_X13_busy {X : xX} {Qf : (Int × xS) → State → Prop} {n : Nat} {p1 : Int} {p2 : Int} {σ : xS} (C : xCx X cX13_busy "BakeryNightModel" (some .int) { frames := 8, cells := 0, slots := 0, locals := 180 } 3) (hQ : ∀ v τ, Qf (v, τ) = xQf X WW (some (iV v), τ))  : WO X Qf WW σ 0 [(0, .ref (xqa (xXE X).2.2 184)), (1, iV p1), (2, iV p2)] [] (m_X13_busy n p1 p2 σ) := by
  unfold m_X13_busy
  refine x_aload_n C 0 dX13_busy_0 rfl rfl ?_
  refine x_callV C (ct_X13_isNight _ _ n σ) mt_X13_isNight vr_X13_isNight wd2005 cls_X13 at_X13 rfl ⟨rfl, rfl, Nat.le_of_ble_eq_true rfl, Nat.le_of_ble_eq_true rfl⟩ rfl (by decide) dX13_busy_1 (kS (fun v2 s1 => ?_))
  refine x_if_ne C 10 rfl dX13_busy_4 rfl (fun c3 => x_on c3 ?_) (fun c3 => x_op c3 ?_)
  · refine x_aload_n C 0 dX13_busy_10 rfl rfl ?_
    refine x_iload_n C 1 dX13_busy_11 rfl rfl ?_
    refine x_i2l C dX13_busy_12 ?_
    refine x_lconst C 0 dX13_busy_13 rfl ?_
    refine x_ldc2 C (2) wd2058 rfl dX13_busy_14 ?_
    refine x_callV C (ct_X13_isIn _ _ (zI p1) 0 2 s1) mt_X13_isIn vr_X13_isIn wd1680 cls_X13 at_X13 rfl ⟨rfl, rfl, Nat.le_of_ble_eq_true rfl, Nat.le_of_ble_eq_true rfl⟩ rfl (by decide) dX13_busy_17 (kP ?_)
    refine x_if_ne C 25 (zI_bo (bo_X13_isIn _ _ _)) dX13_busy_20 rfl (fun c4 => x_on c4 ?_) (fun c4 => x_op c4 ?_)
    · refine x_iload_n C 2 dX13_busy_25 rfl rfl ?_
      refine x_aload_n C 0 dX13_busy_26 rfl rfl ?_
      refine x_get (v := iV (s1 184 6)) C 6 cls_X13 at_X13 (by decide) wd1508 rfl rfl dX13_busy_27 ?_
      refine x_join (fun J => ∀ q8 : Int, WO X Qf WW s1 48 [] [iV q8] (J q8)) ?_ ?_
      · intro q8
        exact x_iretQ C (hQ _ _) rfl dX13_busy_48
      · intro J6 hJ7
        refine x_icmp_ge C 37 rfl rfl dX13_busy_30 rfl (fun c9 => x_op c9 ?_) (fun c9 => x_on c9 ?_)
        · refine x_aload_n C 0 dX13_busy_37 rfl rfl ?_
          refine x_iload_n C 1 dX13_busy_38 rfl rfl ?_
          refine x_iload_n C 2 dX13_busy_39 rfl rfl ?_
          refine x_aload_n C 0 dX13_busy_40 rfl rfl ?_
          refine x_get (v := iV (s1 184 6)) C 6 cls_X13 at_X13 (by decide) wd1508 rfl rfl dX13_busy_41 ?_
          refine x_isub C dX13_busy_44 ?_
          refine x_callV C (ct_X13_inUse _ _ n p1 (p2 - (s1 184 6)) s1) mt_X13_inUse vr_X13_inUse wd2059 cls_X13 at_X13 rfl ⟨rfl, rfl, Nat.le_of_ble_eq_true rfl, Nat.le_of_ble_eq_true rfl⟩ rfl (by decide) dX13_busy_45 (kI (fun v10 => ?_))
          refine x_pick [] rfl ?_
          exact hJ7 v10
        · refine x_iconst C (0) dX13_busy_33 rfl ?_
          refine x_goto C 48 dX13_busy_34 rfl ?_
          refine x_pick [] rfl ?_
          exact hJ7 0
    · refine x_iconst C (-1) dX13_busy_23 rfl ?_
      exact x_iretQ C (hQ _ _) rfl dX13_busy_24
  · refine x_bipush C (-2) dX13_busy_7 rfl ?_
    exact x_iretQ C (hQ _ _) rfl dX13_busy_9
theorem ct_X13_busy (l : Launch) (E : xE) (n : Nat) (p1 : Int) (p2 : Int) (σ : xS)   : xMet l E yX13_busy cX13_busy 3 (some .int) { frames := 8, cells := 0, slots := 0, locals := 180 } [.ref (xqa E.2.2 184), iV p1, iV p2] WW WW σ (xrS (m_X13_busy n p1 p2 σ)) := by
  refine xMet.of0 (by decide) (Nat.le_of_ble_eq_true rfl) rfl rfl (fun X hE C => ?_)
  subst hE
  exact xMap (fun q => (some (iV q.1), q.2)) (wk_X13_busy C (fun _ _ => rfl) )
theorem mt_X13_busy : xMth yX13_busy cX13_busy 3 (some .int) 2 := ⟨wd2057, wd164, ⟨by decide, by decide, rfl⟩⟩
theorem vr_X13_busy : xVir yX13_busy := ⟨wd2055, wd2056⟩
def m_X13_busiestMinute (n : Nat) (p1 : Int) (σ : xS) : Option (Int × xS) :=
  xbS (m_X13_isNight n σ) fun v2 s1 => if (zI v2) = 0 then some ((-2), s1) else if (m_X13_isIn (zI p1) 0 2) = 0 then some ((-1), s1) else xlet (-1) fun v5 => loopF (fun rec7 (t6 : Int × Int × Int) => if (zI (s1 184 35)) < (zI t6.2.2) then xlet (if (zI t6.1) = (-1) then (-1) else (s1 184 6) + t6.1) fun v10 => some (v10, s1) else (m_X13_inUse n p1 t6.2.2 s1).bind fun v13 => xj (fun (q16 : Int × Int) => xlet (t6.2.2 + 1) fun v17 => rec7 (q16.1, q16.2, v17)) fun J14 => if (zI t6.2.1) < (zI v13) then J14 (t6.2.2, v13) else J14 (t6.1, t6.2.1)) n (v5, 0, 0)
set_option maxHeartbeats 4000000 in
set_option maxRecDepth 100000 in
theorem wk_X13_busiestMinute {X : xX} {Qf : (Int × xS) → State → Prop} {n : Nat} {p1 : Int} {σ : xS} (C : xCx X cX13_busiestMinute "BakeryNightModel" (some .int) { frames := 8, cells := 0, slots := 0, locals := 180 } 6) (hQ : ∀ v τ, Qf (v, τ) = xQf X WW (some (iV v), τ))  : WO X Qf WW σ 0 [(0, .ref (xqa (xXE X).2.2 184)), (1, iV p1)] [] (m_X13_busiestMinute n p1 σ) := by
  unfold m_X13_busiestMinute
  refine x_aload_n C 0 dX13_busiestMinute_0 rfl rfl ?_
  refine x_callV C (ct_X13_isNight _ _ n σ) mt_X13_isNight vr_X13_isNight wd2005 cls_X13 at_X13 rfl ⟨rfl, rfl, Nat.le_of_ble_eq_true rfl, Nat.le_of_ble_eq_true rfl⟩ rfl (by decide) dX13_busiestMinute_1 (kS (fun v2 s1 => ?_))
  refine x_if_ne C 10 rfl dX13_busiestMinute_4 rfl (fun c3 => x_on c3 ?_) (fun c3 => x_op c3 ?_)
  · refine x_aload_n C 0 dX13_busiestMinute_10 rfl rfl ?_
    refine x_iload_n C 1 dX13_busiestMinute_11 rfl rfl ?_
    refine x_i2l C dX13_busiestMinute_12 ?_
    refine x_lconst C 0 dX13_busiestMinute_13 rfl ?_
    refine x_ldc2 C (2) wd2058 rfl dX13_busiestMinute_14 ?_
    refine x_callV C (ct_X13_isIn _ _ (zI p1) 0 2 s1) mt_X13_isIn vr_X13_isIn wd1680 cls_X13 at_X13 rfl ⟨rfl, rfl, Nat.le_of_ble_eq_true rfl, Nat.le_of_ble_eq_true rfl⟩ rfl (by decide) dX13_busiestMinute_17 (kP ?_)
    refine x_if_ne C 25 (zI_bo (bo_X13_isIn _ _ _)) dX13_busiestMinute_20 rfl (fun c4 => x_on c4 ?_) (fun c4 => x_op c4 ?_)
    · refine x_iconst C (-1) dX13_busiestMinute_25 rfl ?_
      refine x_letI (fun v5 => ?_)
      refine x_istore_n (L' := [(2, _), (0, _), (1, _)]) C dX13_busiestMinute_26 rfl (by decide) rfl ?_
      refine x_iconst C (0) dX13_busiestMinute_27 rfl ?_
      refine x_istore_n (L' := [(3, _), (2, _), (0, _), (1, _)]) C dX13_busiestMinute_28 rfl (by decide) rfl ?_
      refine x_iconst C (0) dX13_busiestMinute_29 rfl ?_
      refine x_istore (L' := [(4, _), (3, _), (2, _), (0, _), (1, _)]) C dX13_busiestMinute_30 (by decide) rfl ?_
      refine x_pick [3, 4, 2, 1, 0] rfl ?_
      refine x_loop (fun t6 : Int × Int × Int => s1) (fun t6 : Int × Int × Int => [(0, .ref (xqa (xXE X).2.2 184)), (1, iV p1), (2, iV t6.1), (3, iV t6.2.1), (4, iV t6.2.2)]) (fun rec7 hr8 t6 => ?_) n (v5, 0, 0)
      refine x_iload C 4 dX13_busiestMinute_32 rfl ?_
      refine x_aload_n C 0 dX13_busiestMinute_34 rfl rfl ?_
      refine x_get (v := iV (s1 184 35)) C 35 cls_X13 at_X13 (by decide) wd1537 rfl rfl dX13_busiestMinute_35 ?_
      refine x_icmp_gt C 71 rfl rfl dX13_busiestMinute_38 rfl (fun c9 => x_op c9 ?_) (fun c9 => x_on c9 ?_)
      · refine x_iload_n C 2 dX13_busiestMinute_71 rfl rfl ?_
        refine x_iconst C (-1) dX13_busiestMinute_72 rfl ?_
        refine x_tree 86 [] (fun v10 => ?_) (fun hJ11 => ?_)
        · exact x_iretQ C (hQ _ _) rfl dX13_busiestMinute_86
        · refine x_icmp_ne C 80 rfl (zIl _ rfl) dX13_busiestMinute_73 rfl (fun c12 => ?_) (fun c12 => ?_)
          · refine x_aload_n C 0 dX13_busiestMinute_80 rfl rfl ?_
            refine x_get (v := iV (s1 184 6)) C 6 cls_X13 at_X13 (by decide) wd1508 rfl rfl dX13_busiestMinute_81 ?_
            refine x_iload_n C 2 dX13_busiestMinute_84 rfl rfl ?_
            refine x_iadd C dX13_busiestMinute_85 ?_
            exact hJ11 _ (by rw [if_neg c12])
          · refine x_iconst C (-1) dX13_busiestMinute_76 rfl ?_
            refine x_goto C 86 dX13_busiestMinute_77 rfl ?_
            exact hJ11 _ (by rw [if_pos c12])
      · refine x_aload_n C 0 dX13_busiestMinute_41 rfl rfl ?_
        refine x_iload_n C 1 dX13_busiestMinute_42 rfl rfl ?_
        refine x_iload C 4 dX13_busiestMinute_43 rfl ?_
        refine x_callV C (ct_X13_inUse _ _ n p1 t6.2.2 s1) mt_X13_inUse vr_X13_inUse wd2059 cls_X13 at_X13 rfl ⟨rfl, rfl, Nat.le_of_ble_eq_true rfl, Nat.le_of_ble_eq_true rfl⟩ rfl (by decide) dX13_busiestMinute_45 (kI (fun v13 => ?_))
        refine x_istore (L' := [(5, _), (0, _), (1, _), (2, _), (3, _), (4, _)]) C dX13_busiestMinute_48 (by decide) rfl ?_
        refine x_iload C 0 dX13_busiestMinute_50 rfl ?_
        refine x_iload_n C 4 dX13_busiestMinute_52 rfl rfl ?_
        refine x_join (fun J => ∀ q16 : Int × Int, WO X Qf WW s1 65 [(0, .ref (xqa (xXE X).2.2 184)), (1, iV p1), (2, iV q16.1), (3, iV q16.2), (4, iV t6.2.2)] [] (J q16)) ?_ ?_
        · intro q16
          refine x_inc C 4 (f := _) dX13_busiestMinute_65 rfl (by decide) (1) rfl (fun v17 => ?_)
          refine x_reL (L' := [(4, _), (0, _), (1, _), (2, _), (3, _)]) rfl ?_
          refine x_goto C 32 dX13_busiestMinute_68 rfl ?_
          refine x_pick [1, 2, 3, 4, 0] rfl ?_
          exact hr8 (q16.1, q16.2, v17)
        · intro J14 hJ15
          refine x_icmp_gt C 59 rfl rfl dX13_busiestMinute_53 rfl (fun c18 => x_op c18 ?_) (fun c18 => x_on c18 ?_)
          · refine x_iload C 0 dX13_busiestMinute_59 rfl ?_
            refine x_istore_n (L' := [(3, _), (5, _), (0, _), (1, _), (2, _), (4, _)]) C dX13_busiestMinute_61 rfl (by decide) rfl ?_
            refine x_iload C 5 dX13_busiestMinute_62 rfl ?_
            refine x_istore_n (L' := [(2, _), (3, _), (5, _), (0, _), (1, _), (4, _)]) C dX13_busiestMinute_64 rfl (by decide) rfl ?_
            refine x_pick [3, 4, 0, 1, 5] rfl ?_
            exact hJ15 (t6.2.2, v13)
          · refine x_goto C 65 dX13_busiestMinute_56 rfl ?_
            refine x_pick [1, 2, 3, 4, 5] rfl ?_
            exact hJ15 (t6.1, t6.2.1)
    · refine x_iconst C (-1) dX13_busiestMinute_23 rfl ?_
      exact x_iretQ C (hQ _ _) rfl dX13_busiestMinute_24
  · refine x_bipush C (-2) dX13_busiestMinute_7 rfl ?_
    exact x_iretQ C (hQ _ _) rfl dX13_busiestMinute_9
theorem ct_X13_busiestMinute (l : Launch) (E : xE) (n : Nat) (p1 : Int) (σ : xS)   : xMet l E yX13_busiestMinute cX13_busiestMinute 6 (some .int) { frames := 8, cells := 0, slots := 0, locals := 180 } [.ref (xqa E.2.2 184), iV p1] WW WW σ (xrS (m_X13_busiestMinute n p1 σ)) := by
  refine xMet.of0 (by decide) (Nat.le_of_ble_eq_true rfl) rfl rfl (fun X hE C => ?_)
  subst hE
  exact xMap (fun q => (some (iV q.1), q.2)) (wk_X13_busiestMinute C (fun _ _ => rfl) )
theorem mt_X13_busiestMinute : xMth yX13_busiestMinute cX13_busiestMinute 6 (some .int) 1 := ⟨wd2066, wd164, ⟨by decide, by decide, rfl⟩⟩
theorem vr_X13_busiestMinute : xVir yX13_busiestMinute := ⟨wd2064, wd2065⟩
def m_X13_bakedLoaves (n : Nat) (k1 : Nat) (p2 : Int) (σ : xS) : Option Int :=
  loopF (fun rec2 (t1 : Int × Int) => if (zI (σ 184 19)) ≤ (zI t1.2) then some t1.1 else xck (zI t1.2) 60 <| xj (fun (q7 : Int) => xlet (t1.1 + q7) fun v8 => xlet (t1.2 + 1) fun v9 => rec2 (v8, v9)) fun J5 => xj (fun (q12 : Unit) => J5 0) fun J10 => if (zI (σ 193 (zI t1.2).toNat)) = 8 then xck (zI t1.2) 60 <| if (zI (σ 192 (zI t1.2).toNat)) = (zI p2) then (m_X13_dough k1 p2 7 σ).bind fun v15 => J5 v15 else J10 () else J10 ()) n (0, 0)
set_option maxHeartbeats 4000000 in
set_option maxRecDepth 100000 in
theorem wk_X13_bakedLoaves {X : xX} {Qf : Int → State → Prop} {n : Nat} {k1 : Nat} {p2 : Int} {σ : xS} (C : xCx X cX13_bakedLoaves "BakeryNightModel" (some .int) { frames := 1, cells := 0, slots := 0, locals := 23 } 5) (hQ : ∀ v, Qf v = xQf X WW (some (iV v), σ)) (hk1 : xAt WW k1 0 289) : WO X Qf WW σ 0 [(0, .ref (xqa (xXE X).2.2 184)), (1, .ref (xqa (xXE X).2.2 k1)), (2, iV p2)] [] (m_X13_bakedLoaves n k1 p2 σ) := by
  unfold m_X13_bakedLoaves
  refine x_iconst C (0) dX13_bakedLoaves_0 rfl ?_
  refine x_istore_n (L' := [(3, _), (0, _), (1, _), (2, _)]) C dX13_bakedLoaves_1 rfl (by decide) rfl ?_
  refine x_iconst C (0) dX13_bakedLoaves_2 rfl ?_
  refine x_istore (L' := [(4, _), (3, _), (0, _), (1, _), (2, _)]) C dX13_bakedLoaves_3 (by decide) rfl ?_
  refine x_pick [2, 3, 4, 1, 0] rfl ?_
  refine x_loop (fun t1 : Int × Int => σ) (fun t1 : Int × Int => [(0, .ref (xqa (xXE X).2.2 184)), (1, .ref (xqa (xXE X).2.2 k1)), (2, iV p2), (3, iV t1.1), (4, iV t1.2)]) (fun rec2 hr3 t1 => ?_) n (0, 0)
  refine x_iload C 4 dX13_bakedLoaves_5 rfl ?_
  refine x_aload_n C 0 dX13_bakedLoaves_7 rfl rfl ?_
  refine x_get (v := iV (σ 184 19)) C 19 cls_X13 at_X13 (by decide) wd1521 rfl rfl dX13_bakedLoaves_8 ?_
  refine x_icmp_ge C 58 rfl rfl dX13_bakedLoaves_11 rfl (fun c4 => x_op c4 ?_) (fun c4 => x_on c4 ?_)
  · refine x_iload_n C 3 dX13_bakedLoaves_58 rfl rfl ?_
    exact x_iretQ C (hQ _) rfl dX13_bakedLoaves_59
  · refine x_iload_n C 3 dX13_bakedLoaves_14 rfl rfl ?_
    refine x_aload_n C 0 dX13_bakedLoaves_15 rfl rfl ?_
    refine x_get (v := .ref (xqa (xXE X).2.2 193)) C 20 cls_X13 at_X13 (by decide) wd1522 rfl (xV_r (rt_X13_state  _) rfl) dX13_bakedLoaves_16 ?_
    refine x_iload C 4 dX13_bakedLoaves_19 rfl ?_
    refine x_iald C at_X13_state rfl dX13_bakedLoaves_21 (fun _ => ?_)
    refine x_bipush C (8) dX13_bakedLoaves_22 rfl ?_
    refine x_join (fun J => ∀ q7 : Int, WO X Qf WW σ 50 [(0, .ref (xqa (xXE X).2.2 184)), (1, .ref (xqa (xXE X).2.2 k1)), (2, iV p2), (4, iV t1.2)] [iV q7, iV t1.1] (J q7)) ?_ ?_
    · intro q7
      refine x_iadd C dX13_bakedLoaves_50 ?_
      refine x_letI (fun v8 => ?_)
      refine x_istore_n (L' := [(3, _), (0, _), (1, _), (2, _), (4, _)]) C dX13_bakedLoaves_51 rfl (by decide) rfl ?_
      refine x_inc C 4 (f := _) dX13_bakedLoaves_52 rfl (by decide) (1) rfl (fun v9 => ?_)
      refine x_reL (L' := [(4, _), (3, _), (0, _), (1, _), (2, _)]) rfl ?_
      refine x_goto C 5 dX13_bakedLoaves_55 rfl ?_
      refine x_pick [2, 3, 4, 1, 0] rfl ?_
      exact hr3 (v8, v9)
    · intro J5 hJ6
      refine x_join (fun J => ∀ q12 : Unit, WO X Qf WW σ 49 [(0, .ref (xqa (xXE X).2.2 184)), (1, .ref (xqa (xXE X).2.2 k1)), (2, iV p2), (4, iV t1.2)] [iV t1.1] (J q12)) ?_ ?_
      · intro q12
        refine x_iconst C (0) dX13_bakedLoaves_49 rfl ?_
        refine x_pick [0, 1, 2, 3] rfl ?_
        exact hJ6 0
      · intro J10 hJ11
        refine x_icmp_ne C 49 rfl (zIl _ rfl) dX13_bakedLoaves_24 rfl (fun c13 => x_on c13 ?_) (fun c13 => x_op c13 ?_)
        · refine x_pick [0, 1, 2, 4] rfl ?_
          exact hJ11 ()
        · refine x_aload_n C 0 dX13_bakedLoaves_27 rfl rfl ?_
          refine x_get (v := .ref (xqa (xXE X).2.2 192)) C 18 cls_X13 at_X13 (by decide) wd1520 rfl (xV_r (rt_X13_batchDough  _) rfl) dX13_bakedLoaves_28 ?_
          refine x_iload C 4 dX13_bakedLoaves_31 rfl ?_
          refine x_iald C at_X13_batchDough rfl dX13_bakedLoaves_33 (fun _ => ?_)
          refine x_iload_n C 2 dX13_bakedLoaves_34 rfl rfl ?_
          refine x_icmp_ne C 49 rfl rfl dX13_bakedLoaves_35 rfl (fun c14 => x_on c14 ?_) (fun c14 => x_op c14 ?_)
          · refine x_pick [0, 1, 2, 4] rfl ?_
            exact hJ11 ()
          · refine x_aload_n C 0 dX13_bakedLoaves_38 rfl rfl ?_
            refine x_aload_n C 1 dX13_bakedLoaves_39 rfl rfl ?_
            refine x_iload_n C 2 dX13_bakedLoaves_40 rfl rfl ?_
            refine x_bipush C (7) dX13_bakedLoaves_41 rfl ?_
            refine x_callV C (ct_X13_dough _ _ k1 p2 7 σ hk1) mt_X13_dough vr_X13_dough wd1895 cls_X13 at_X13 rfl ⟨rfl, rfl, Nat.le_of_ble_eq_true rfl, Nat.le_of_ble_eq_true rfl⟩ rfl (Nat.le_of_ble_eq_true rfl) dX13_bakedLoaves_43 (kI (fun v15 => ?_))
            refine x_goto C 50 dX13_bakedLoaves_46 rfl ?_
            refine x_pick [0, 1, 2, 4] rfl ?_
            exact hJ6 v15
theorem ct_X13_bakedLoaves (l : Launch) (E : xE) (n : Nat) (k1 : Nat) (p2 : Int) (σ : xS) (hk1 : xAt WW k1 0 289)  : xMet l E yX13_bakedLoaves cX13_bakedLoaves 5 (some .int) { frames := 1, cells := 0, slots := 0, locals := 23 } [.ref (xqa E.2.2 184), .ref (xqa E.2.2 k1), iV p2] WW WW σ (xrI (m_X13_bakedLoaves n k1 p2 σ) σ) := by
  refine xMet.of0 (by decide) (Nat.le_of_ble_eq_true rfl) rfl rfl (fun X hE C => ?_)
  subst hE
  exact xMap (fun v => (some (iV v), σ)) (wk_X13_bakedLoaves C (fun _ => rfl) hk1)
theorem mt_X13_bakedLoaves : xMth yX13_bakedLoaves cX13_bakedLoaves 5 (some .int) 2 := ⟨wd2090, wd164, ⟨by decide, by decide, rfl⟩⟩
theorem vr_X13_bakedLoaves : xVir yX13_bakedLoaves := ⟨wd2089, wd124⟩
def m_X13_isBefore (k1 : Nat) (p2 : Int) (p3 : Int) (σ : xS) : Option Int :=
  (m_X13_order k1 p2 3 σ).bind fun v1 => (m_X13_order k1 p3 3 σ).bind fun v2 => xj (fun (q6 : Int) => xbo q6 (some q6)) fun J4 => if (zI v1) = (zI v2) then if (zI p3) ≤ (zI p2) then J4 0 else J4 1 else (m_X13_order k1 p2 3 σ).bind fun v9 => (m_X13_order k1 p3 3 σ).bind fun v10 => if (zI v10) ≤ (zI v9) then J4 0 else J4 1
set_option maxHeartbeats 4000000 in
set_option maxRecDepth 100000 in
theorem wk_X13_isBefore {X : xX} {Qf : Int → State → Prop} {k1 : Nat} {p2 : Int} {p3 : Int} {σ : xS} (C : xCx X cX13_isBefore "BakeryNightModel" (some .boolean) { frames := 1, cells := 0, slots := 0, locals := 23 } 4) (hQ : ∀ v, Qf v = xQf X WW (some (iV v), σ)) (hk1 : xAt WW k1 0 289) : WO X Qf WW σ 0 [(0, .ref (xqa (xXE X).2.2 184)), (1, .ref (xqa (xXE X).2.2 k1)), (2, iV p2), (3, iV p3)] [] (m_X13_isBefore k1 p2 p3 σ) := by
  unfold m_X13_isBefore
  refine x_aload_n C 0 dX13_isBefore_0 rfl rfl ?_
  refine x_aload_n C 1 dX13_isBefore_1 rfl rfl ?_
  refine x_iload_n C 2 dX13_isBefore_2 rfl rfl ?_
  refine x_iconst C (3) dX13_isBefore_3 rfl ?_
  refine x_callV C (ct_X13_order _ _ k1 p2 3 σ hk1) mt_X13_order vr_X13_order wd1879 cls_X13 at_X13 rfl ⟨rfl, rfl, Nat.le_of_ble_eq_true rfl, Nat.le_of_ble_eq_true rfl⟩ rfl (by decide) dX13_isBefore_4 (kI (fun v1 => ?_))
  refine x_aload_n C 0 dX13_isBefore_7 rfl rfl ?_
  refine x_aload_n C 1 dX13_isBefore_8 rfl rfl ?_
  refine x_iload_n C 3 dX13_isBefore_9 rfl rfl ?_
  refine x_iconst C (3) dX13_isBefore_10 rfl ?_
  refine x_callV C (ct_X13_order _ _ k1 p3 3 σ hk1) mt_X13_order vr_X13_order wd1879 cls_X13 at_X13 rfl ⟨rfl, rfl, Nat.le_of_ble_eq_true rfl, Nat.le_of_ble_eq_true rfl⟩ rfl (Nat.le_of_ble_eq_true rfl) dX13_isBefore_11 (kI (fun v2 => ?_))
  refine x_join (fun J => ∀ q6 : Int, WO X Qf WW σ 52 [] [iV q6] (J q6)) ?_ ?_
  · intro q6
    exact x_bo (fun hb => x_zretQ C (hQ _) rfl hb dX13_isBefore_52)
  · intro J4 hJ5
    refine x_icmp_eq C 42 rfl rfl dX13_isBefore_14 rfl (fun c7 => x_op c7 ?_) (fun c7 => x_on c7 ?_)
    · refine x_iload_n C 2 dX13_isBefore_42 rfl rfl ?_
      refine x_iload_n C 3 dX13_isBefore_43 rfl rfl ?_
      refine x_icmp_ge C 51 rfl rfl dX13_isBefore_44 rfl (fun c8 => x_op c8 ?_) (fun c8 => x_on c8 ?_)
      · refine x_iconst C (0) dX13_isBefore_51 rfl ?_
        refine x_pick [] rfl ?_
        exact hJ5 0
      · refine x_iconst C (1) dX13_isBefore_47 rfl ?_
        refine x_goto C 52 dX13_isBefore_48 rfl ?_
        refine x_pick [] rfl ?_
        exact hJ5 1
    · refine x_aload_n C 0 dX13_isBefore_17 rfl rfl ?_
      refine x_aload_n C 1 dX13_isBefore_18 rfl rfl ?_
      refine x_iload_n C 2 dX13_isBefore_19 rfl rfl ?_
      refine x_iconst C (3) dX13_isBefore_20 rfl ?_
      refine x_callV C (ct_X13_order _ _ k1 p2 3 σ hk1) mt_X13_order vr_X13_order wd1879 cls_X13 at_X13 rfl ⟨rfl, rfl, Nat.le_of_ble_eq_true rfl, Nat.le_of_ble_eq_true rfl⟩ rfl (by decide) dX13_isBefore_21 (kI (fun v9 => ?_))
      refine x_aload_n C 0 dX13_isBefore_24 rfl rfl ?_
      refine x_aload_n C 1 dX13_isBefore_25 rfl rfl ?_
      refine x_iload_n C 3 dX13_isBefore_26 rfl rfl ?_
      refine x_iconst C (3) dX13_isBefore_27 rfl ?_
      refine x_callV C (ct_X13_order _ _ k1 p3 3 σ hk1) mt_X13_order vr_X13_order wd1879 cls_X13 at_X13 rfl ⟨rfl, rfl, Nat.le_of_ble_eq_true rfl, Nat.le_of_ble_eq_true rfl⟩ rfl (Nat.le_of_ble_eq_true rfl) dX13_isBefore_28 (kI (fun v10 => ?_))
      refine x_icmp_ge C 38 rfl rfl dX13_isBefore_31 rfl (fun c11 => x_op c11 ?_) (fun c11 => x_on c11 ?_)
      · refine x_iconst C (0) dX13_isBefore_38 rfl ?_
        refine x_goto C 52 dX13_isBefore_39 rfl ?_
        refine x_pick [] rfl ?_
        exact hJ5 0
      · refine x_iconst C (1) dX13_isBefore_34 rfl ?_
        refine x_goto C 52 dX13_isBefore_35 rfl ?_
        refine x_pick [] rfl ?_
        exact hJ5 1
theorem ct_X13_isBefore (l : Launch) (E : xE) (k1 : Nat) (p2 : Int) (p3 : Int) (σ : xS) (hk1 : xAt WW k1 0 289)  : xMet l E yX13_isBefore cX13_isBefore 4 (some .boolean) { frames := 1, cells := 0, slots := 0, locals := 23 } [.ref (xqa E.2.2 184), .ref (xqa E.2.2 k1), iV p2, iV p3] WW WW σ (xrI (m_X13_isBefore k1 p2 p3 σ) σ) := by
  refine xMet.of0 (by decide) (Nat.le_of_ble_eq_true rfl) rfl rfl (fun X hE C => ?_)
  subst hE
  exact xMap (fun v => (some (iV v), σ)) (wk_X13_isBefore C (fun _ => rfl) hk1)
theorem mt_X13_isBefore : xMth yX13_isBefore cX13_isBefore 4 (some .boolean) 3 := ⟨wd2086, wd164, ⟨by decide, by decide, rfl⟩⟩
theorem vr_X13_isBefore : xVir yX13_isBefore := ⟨wd2085, wd123⟩
def m_X13_givenAhead (n : Nat) (k1 : Nat) (p2 : Int) (σ : xS) : Option Int :=
  loopF (fun rec2 (t1 : Int × Int) => xck 9 289 <| if (zI (σ k1 (9 : Int).toNat)) ≤ (zI t1.2) then some t1.1 else (m_X13_isMeant k1 t1.2 σ).bind fun v5 => xj (fun (q10 : Int) => xlet (t1.1 + q10) fun v11 => xlet (t1.2 + 1) fun v12 => rec2 (v11, v12)) fun J8 => xj (fun (q15 : Unit) => J8 0) fun J13 => if (zI v5) = 0 then J13 () else (m_X13_order k1 t1.2 1 σ).bind fun v17 => (m_X13_order k1 p2 1 σ).bind fun v18 => if (zI v17) = (zI v18) then (m_X13_isBefore k1 t1.2 p2 σ).bind fun v20 => if (zI v20) = 0 then J13 () else (m_X13_order k1 t1.2 2 σ).bind fun v22 => J8 v22 else J13 ()) n (0, 0)
set_option maxHeartbeats 4000000 in
set_option maxRecDepth 100000 in
theorem wk_X13_givenAhead {X : xX} {Qf : Int → State → Prop} {n : Nat} {k1 : Nat} {p2 : Int} {σ : xS} (C : xCx X cX13_givenAhead "BakeryNightModel" (some .int) { frames := 2, cells := 0, slots := 0, locals := 46 } 5) (hQ : ∀ v, Qf v = xQf X WW (some (iV v), σ)) (hk1 : xAt WW k1 0 289) : WO X Qf WW σ 0 [(0, .ref (xqa (xXE X).2.2 184)), (1, .ref (xqa (xXE X).2.2 k1)), (2, iV p2)] [] (m_X13_givenAhead n k1 p2 σ) := by
  unfold m_X13_givenAhead
  refine x_iconst C (0) dX13_givenAhead_0 rfl ?_
  refine x_istore_n (L' := [(3, _), (0, _), (1, _), (2, _)]) C dX13_givenAhead_1 rfl (by decide) rfl ?_
  refine x_iconst C (0) dX13_givenAhead_2 rfl ?_
  refine x_istore (L' := [(4, _), (3, _), (0, _), (1, _), (2, _)]) C dX13_givenAhead_3 (by decide) rfl ?_
  refine x_pick [2, 3, 4, 1, 0] rfl ?_
  refine x_loop (fun t1 : Int × Int => σ) (fun t1 : Int × Int => [(0, .ref (xqa (xXE X).2.2 184)), (1, .ref (xqa (xXE X).2.2 k1)), (2, iV p2), (3, iV t1.1), (4, iV t1.2)]) (fun rec2 hr3 t1 => ?_) n (0, 0)
  refine x_iload C 4 dX13_givenAhead_5 rfl ?_
  refine x_aload_n C 1 dX13_givenAhead_7 rfl rfl ?_
  refine x_bipush C (9) dX13_givenAhead_8 rfl ?_
  refine x_iald C hk1 (zIl _ rfl) dX13_givenAhead_10 (fun _ => ?_)
  refine x_icmp_ge C 74 rfl rfl dX13_givenAhead_11 rfl (fun c4 => x_op c4 ?_) (fun c4 => x_on c4 ?_)
  · refine x_iload_n C 3 dX13_givenAhead_74 rfl rfl ?_
    exact x_iretQ C (hQ _) rfl dX13_givenAhead_75
  · refine x_iload_n C 3 dX13_givenAhead_14 rfl rfl ?_
    refine x_aload_n C 0 dX13_givenAhead_15 rfl rfl ?_
    refine x_aload_n C 1 dX13_givenAhead_16 rfl rfl ?_
    refine x_iload C 4 dX13_givenAhead_17 rfl ?_
    refine x_callV C (ct_X13_isMeant _ _ k1 t1.2 σ hk1) mt_X13_isMeant vr_X13_isMeant wd1875 cls_X13 at_X13 rfl ⟨rfl, rfl, Nat.le_of_ble_eq_true rfl, Nat.le_of_ble_eq_true rfl⟩ rfl (Nat.le_of_ble_eq_true rfl) dX13_givenAhead_19 (kI (fun v5 => ?_))
    refine x_join (fun J => ∀ q10 : Int, WO X Qf WW σ 66 [(0, .ref (xqa (xXE X).2.2 184)), (1, .ref (xqa (xXE X).2.2 k1)), (2, iV p2), (4, iV t1.2)] [iV q10, iV t1.1] (J q10)) ?_ ?_
    · intro q10
      refine x_iadd C dX13_givenAhead_66 ?_
      refine x_letI (fun v11 => ?_)
      refine x_istore_n (L' := [(3, _), (0, _), (1, _), (2, _), (4, _)]) C dX13_givenAhead_67 rfl (by decide) rfl ?_
      refine x_inc C 4 (f := _) dX13_givenAhead_68 rfl (by decide) (1) rfl (fun v12 => ?_)
      refine x_reL (L' := [(4, _), (3, _), (0, _), (1, _), (2, _)]) rfl ?_
      refine x_goto C 5 dX13_givenAhead_71 rfl ?_
      refine x_pick [2, 3, 4, 1, 0] rfl ?_
      exact hr3 (v11, v12)
    · intro J8 hJ9
      refine x_join (fun J => ∀ q15 : Unit, WO X Qf WW σ 65 [(0, .ref (xqa (xXE X).2.2 184)), (1, .ref (xqa (xXE X).2.2 k1)), (2, iV p2), (4, iV t1.2)] [iV t1.1] (J q15)) ?_ ?_
      · intro q15
        refine x_iconst C (0) dX13_givenAhead_65 rfl ?_
        refine x_pick [0, 1, 2, 3] rfl ?_
        exact hJ9 0
      · intro J13 hJ14
        refine x_if_eq C 65 rfl dX13_givenAhead_22 rfl (fun c16 => x_op c16 ?_) (fun c16 => x_on c16 ?_)
        · refine x_pick [0, 1, 2, 4] rfl ?_
          exact hJ14 ()
        · refine x_aload_n C 0 dX13_givenAhead_25 rfl rfl ?_
          refine x_aload_n C 1 dX13_givenAhead_26 rfl rfl ?_
          refine x_iload C 4 dX13_givenAhead_27 rfl ?_
          refine x_iconst C (1) dX13_givenAhead_29 rfl ?_
          refine x_callV C (ct_X13_order _ _ k1 t1.2 1 σ hk1) mt_X13_order vr_X13_order wd1879 cls_X13 at_X13 rfl ⟨rfl, rfl, Nat.le_of_ble_eq_true rfl, Nat.le_of_ble_eq_true rfl⟩ rfl (Nat.le_of_ble_eq_true rfl) dX13_givenAhead_30 (kI (fun v17 => ?_))
          refine x_aload_n C 0 dX13_givenAhead_33 rfl rfl ?_
          refine x_aload_n C 1 dX13_givenAhead_34 rfl rfl ?_
          refine x_iload_n C 2 dX13_givenAhead_35 rfl rfl ?_
          refine x_iconst C (1) dX13_givenAhead_36 rfl ?_
          refine x_callV C (ct_X13_order _ _ k1 p2 1 σ hk1) mt_X13_order vr_X13_order wd1879 cls_X13 at_X13 rfl ⟨rfl, rfl, Nat.le_of_ble_eq_true rfl, Nat.le_of_ble_eq_true rfl⟩ rfl (Nat.le_of_ble_eq_true rfl) dX13_givenAhead_37 (kI (fun v18 => ?_))
          refine x_icmp_ne C 65 rfl rfl dX13_givenAhead_40 rfl (fun c19 => x_on c19 ?_) (fun c19 => x_op c19 ?_)
          · refine x_pick [0, 1, 2, 4] rfl ?_
            exact hJ14 ()
          · refine x_aload_n C 0 dX13_givenAhead_43 rfl rfl ?_
            refine x_aload_n C 1 dX13_givenAhead_44 rfl rfl ?_
            refine x_iload C 4 dX13_givenAhead_45 rfl ?_
            refine x_iload_n C 2 dX13_givenAhead_47 rfl rfl ?_
            refine x_callV C (ct_X13_isBefore _ _ k1 t1.2 p2 σ hk1) mt_X13_isBefore vr_X13_isBefore wd2083 cls_X13 at_X13 rfl ⟨rfl, rfl, Nat.le_of_ble_eq_true rfl, Nat.le_of_ble_eq_true rfl⟩ rfl (Nat.le_of_ble_eq_true rfl) dX13_givenAhead_48 (kI (fun v20 => ?_))
            refine x_if_eq C 65 rfl dX13_givenAhead_51 rfl (fun c21 => x_op c21 ?_) (fun c21 => x_on c21 ?_)
            · refine x_pick [0, 1, 2, 4] rfl ?_
              exact hJ14 ()
            · refine x_aload_n C 0 dX13_givenAhead_54 rfl rfl ?_
              refine x_aload_n C 1 dX13_givenAhead_55 rfl rfl ?_
              refine x_iload C 4 dX13_givenAhead_56 rfl ?_
              refine x_iconst C (2) dX13_givenAhead_58 rfl ?_
              refine x_callV C (ct_X13_order _ _ k1 t1.2 2 σ hk1) mt_X13_order vr_X13_order wd1879 cls_X13 at_X13 rfl ⟨rfl, rfl, Nat.le_of_ble_eq_true rfl, Nat.le_of_ble_eq_true rfl⟩ rfl (Nat.le_of_ble_eq_true rfl) dX13_givenAhead_59 (kI (fun v22 => ?_))
              refine x_goto C 66 dX13_givenAhead_62 rfl ?_
              refine x_pick [0, 1, 2, 4] rfl ?_
              exact hJ9 v22
theorem ct_X13_givenAhead (l : Launch) (E : xE) (n : Nat) (k1 : Nat) (p2 : Int) (σ : xS) (hk1 : xAt WW k1 0 289)  : xMet l E yX13_givenAhead cX13_givenAhead 5 (some .int) { frames := 2, cells := 0, slots := 0, locals := 46 } [.ref (xqa E.2.2 184), .ref (xqa E.2.2 k1), iV p2] WW WW σ (xrI (m_X13_givenAhead n k1 p2 σ) σ) := by
  refine xMet.of0 (by decide) (Nat.le_of_ble_eq_true rfl) rfl rfl (fun X hE C => ?_)
  subst hE
  exact xMap (fun v => (some (iV v), σ)) (wk_X13_givenAhead C (fun _ => rfl) hk1)
theorem mt_X13_givenAhead : xMth yX13_givenAhead cX13_givenAhead 5 (some .int) 2 := ⟨wd2082, wd164, ⟨by decide, by decide, rfl⟩⟩
theorem vr_X13_givenAhead : xVir yX13_givenAhead := ⟨wd2081, wd122⟩
def m_X13_outAt (n : Nat) (k1 : Nat) (p2 : Int) (p3 : Int) (σ : xS) : Option Int :=
  xlet (-1) fun v1 => loopF (fun rec3 (t2 : Int × Int) => if (zI t2.2) = 1000000 then some 1000000 else loopF (fun rec7 (t6 : Int × Int × Int) => if (zI (σ 184 19)) ≤ (zI t6.2.2) then (m_X13_dough k1 p2 7 σ).bind fun v10 => xlet (t2.1 + (t6.2.1 * v10)) fun v11 => if (zI v11) ≤ (zI p3) then rec3 (v11, t6.1) else some t6.1 else xck (zI t6.2.2) 60 <| xj (fun (q15 : Int × Int) => xlet (t6.2.2 + 1) fun v16 => rec7 (q15.1, q15.2, v16)) fun J13 => if (zI (σ 193 (zI t6.2.2).toNat)) = 8 then xck (zI t6.2.2) 60 <| if (zI (σ 192 (zI t6.2.2).toNat)) = (zI p2) then (m_X13_stageOf t6.2.2 5 σ).bind fun v19 => if (zI t2.2) < (zI v19) then (m_X13_stageOf t6.2.2 5 σ).bind fun v21 => xj (fun (q24 : Int) => (m_X13_stageOf t6.2.2 5 σ).bind fun v25 => xlet (m_X13_lesser t6.1 v25) fun v26 => (m_X13_stageOf t6.2.2 5 σ).bind fun v27 => xlet (if (zI v27) = (zI v26) then 1 else 0) fun v28 => xlet (q24 + v28) fun v29 => J13 (v26, v29)) fun J22 => if (zI t6.1) ≤ (zI v21) then J22 t6.2.1 else J22 0 else J13 (t6.1, t6.2.1) else J13 (t6.1, t6.2.1) else J13 (t6.1, t6.2.1)) n (1000000, 0, 0)) n (0, v1)
set_option maxHeartbeats 4000000 in
set_option maxRecDepth 100000 in
theorem wk_X13_outAt {X : xX} {Qf : Int → State → Prop} {n : Nat} {k1 : Nat} {p2 : Int} {p3 : Int} {σ : xS} (C : xCx X cX13_outAt "BakeryNightModel" (some .int) { frames := 1, cells := 0, slots := 0, locals := 23 } 9) (hQ : ∀ v, Qf v = xQf X WW (some (iV v), σ)) (hk1 : xAt WW k1 0 289) : WO X Qf WW σ 0 [(0, .ref (xqa (xXE X).2.2 184)), (1, .ref (xqa (xXE X).2.2 k1)), (2, iV p2), (3, iV p3)] [] (m_X13_outAt n k1 p2 p3 σ) := by
  unfold m_X13_outAt
  refine x_iconst C (0) dX13_outAt_0 rfl ?_
  refine x_istore (L' := [(4, _), (0, _), (1, _), (2, _), (3, _)]) C dX13_outAt_1 (by decide) rfl ?_
  refine x_iconst C (-1) dX13_outAt_3 rfl ?_
  refine x_letI (fun v1 => ?_)
  refine x_istore (L' := [(5, _), (4, _), (0, _), (1, _), (2, _), (3, _)]) C dX13_outAt_4 (by decide) rfl ?_
  refine x_pick [2, 3, 4, 5, 1, 0] rfl ?_
  refine x_loop (fun t2 : Int × Int => σ) (fun t2 : Int × Int => [(0, .ref (xqa (xXE X).2.2 184)), (1, .ref (xqa (xXE X).2.2 k1)), (2, iV p2), (3, iV p3), (4, iV t2.1), (5, iV t2.2)]) (fun rec3 hr4 t2 => ?_) n (0, v1)
  refine x_iload C 5 dX13_outAt_6 rfl ?_
  refine x_ldcw C (1000000) wd1932 rfl dX13_outAt_8 ?_
  refine x_icmp_eq C 162 rfl (zIl _ rfl) dX13_outAt_11 rfl (fun c5 => x_op c5 ?_) (fun c5 => x_on c5 ?_)
  · refine x_ldcw C (1000000) wd1932 rfl dX13_outAt_162 ?_
    exact x_iretQ C (hQ _) rfl dX13_outAt_165
  · refine x_ldcw C (1000000) wd1932 rfl dX13_outAt_14 ?_
    refine x_istore (L' := [(6, _), (0, _), (1, _), (2, _), (3, _), (4, _), (5, _)]) C dX13_outAt_17 (by decide) rfl ?_
    refine x_iconst C (0) dX13_outAt_19 rfl ?_
    refine x_istore (L' := [(7, _), (6, _), (0, _), (1, _), (2, _), (3, _), (4, _), (5, _)]) C dX13_outAt_20 (by decide) rfl ?_
    refine x_iconst C (0) dX13_outAt_22 rfl ?_
    refine x_istore (L' := [(8, _), (7, _), (6, _), (0, _), (1, _), (2, _), (3, _), (4, _), (5, _)]) C dX13_outAt_23 (by decide) rfl ?_
    refine x_pick [3, 4, 5, 6, 7, 8, 2, 1, 0] rfl ?_
    refine x_loop (fun t6 : Int × Int × Int => σ) (fun t6 : Int × Int × Int => [(0, .ref (xqa (xXE X).2.2 184)), (1, .ref (xqa (xXE X).2.2 k1)), (2, iV p2), (3, iV p3), (4, iV t2.1), (5, iV t2.2), (6, iV t6.1), (7, iV t6.2.1), (8, iV t6.2.2)]) (fun rec7 hr8 t6 => ?_) n (1000000, 0, 0)
    refine x_iload C 8 dX13_outAt_25 rfl ?_
    refine x_aload_n C 0 dX13_outAt_27 rfl rfl ?_
    refine x_get (v := iV (σ 184 19)) C 19 cls_X13 at_X13 (by decide) wd1521 rfl rfl dX13_outAt_28 ?_
    refine x_icmp_ge C 130 rfl rfl dX13_outAt_31 rfl (fun c9 => x_op c9 ?_) (fun c9 => x_on c9 ?_)
    · refine x_iload C 4 dX13_outAt_130 rfl ?_
      refine x_iload C 7 dX13_outAt_132 rfl ?_
      refine x_aload_n C 0 dX13_outAt_134 rfl rfl ?_
      refine x_aload_n C 1 dX13_outAt_135 rfl rfl ?_
      refine x_iload_n C 2 dX13_outAt_136 rfl rfl ?_
      refine x_bipush C (7) dX13_outAt_137 rfl ?_
      refine x_callV C (ct_X13_dough _ _ k1 p2 7 σ hk1) mt_X13_dough vr_X13_dough wd1895 cls_X13 at_X13 rfl ⟨rfl, rfl, Nat.le_of_ble_eq_true rfl, Nat.le_of_ble_eq_true rfl⟩ rfl (Nat.le_of_ble_eq_true rfl) dX13_outAt_139 (kI (fun v10 => ?_))
      refine x_imul C dX13_outAt_142 ?_
      refine x_iadd C dX13_outAt_143 ?_
      refine x_letI (fun v11 => ?_)
      refine x_istore (L' := [(4, _), (0, _), (1, _), (2, _), (3, _), (5, _), (6, _), (7, _), (8, _)]) C dX13_outAt_144 (by decide) rfl ?_
      refine x_iload C 6 dX13_outAt_146 rfl ?_
      refine x_istore (L' := [(5, _), (4, _), (0, _), (1, _), (2, _), (3, _), (6, _), (7, _), (8, _)]) C dX13_outAt_148 (by decide) rfl ?_
      refine x_iload_n C 5 dX13_outAt_150 rfl rfl ?_
      refine x_iload C 1 dX13_outAt_151 rfl ?_
      refine x_icmp_ge C 159 rfl rfl dX13_outAt_153 rfl (fun c12 => x_op c12 ?_) (fun c12 => x_on c12 ?_)
      · refine x_goto C 6 dX13_outAt_159 rfl ?_
        refine x_pick [2, 3, 4, 5, 1, 0] rfl ?_
        exact hr4 (v11, t6.1)
      · refine x_iload C 0 dX13_outAt_156 rfl ?_
        exact x_iretQ C (hQ _) rfl dX13_outAt_158
    · refine x_aload_n C 0 dX13_outAt_34 rfl rfl ?_
      refine x_get (v := .ref (xqa (xXE X).2.2 193)) C 20 cls_X13 at_X13 (by decide) wd1522 rfl (xV_r (rt_X13_state  _) rfl) dX13_outAt_35 ?_
      refine x_iload C 8 dX13_outAt_38 rfl ?_
      refine x_iald C at_X13_state rfl dX13_outAt_40 (fun _ => ?_)
      refine x_bipush C (8) dX13_outAt_41 rfl ?_
      refine x_join (fun J => ∀ q15 : Int × Int, WO X Qf WW σ 124 [(0, .ref (xqa (xXE X).2.2 184)), (1, .ref (xqa (xXE X).2.2 k1)), (2, iV p2), (3, iV p3), (4, iV t2.1), (5, iV t2.2), (6, iV q15.1), (7, iV q15.2), (8, iV t6.2.2)] [] (J q15)) ?_ ?_
      · intro q15
        refine x_inc C 8 (f := _) dX13_outAt_124 rfl (by decide) (1) rfl (fun v16 => ?_)
        refine x_reL (L' := [(8, _), (0, _), (1, _), (2, _), (3, _), (4, _), (5, _), (6, _), (7, _)]) rfl ?_
        refine x_goto C 25 dX13_outAt_127 rfl ?_
        refine x_pick [1, 2, 3, 4, 5, 6, 7, 8, 0] rfl ?_
        exact hr8 (q15.1, q15.2, v16)
      · intro J13 hJ14
        refine x_icmp_ne C 124 rfl (zIl _ rfl) dX13_outAt_43 rfl (fun c17 => x_on c17 ?_) (fun c17 => x_op c17 ?_)
        · refine x_pick [0, 1, 2, 3, 4, 5, 6, 7, 8] rfl ?_
          exact hJ14 (t6.1, t6.2.1)
        · refine x_aload_n C 0 dX13_outAt_46 rfl rfl ?_
          refine x_get (v := .ref (xqa (xXE X).2.2 192)) C 18 cls_X13 at_X13 (by decide) wd1520 rfl (xV_r (rt_X13_batchDough  _) rfl) dX13_outAt_47 ?_
          refine x_iload C 8 dX13_outAt_50 rfl ?_
          refine x_iald C at_X13_batchDough rfl dX13_outAt_52 (fun _ => ?_)
          refine x_iload_n C 2 dX13_outAt_53 rfl rfl ?_
          refine x_icmp_ne C 124 rfl rfl dX13_outAt_54 rfl (fun c18 => x_on c18 ?_) (fun c18 => x_op c18 ?_)
          · refine x_pick [0, 1, 2, 3, 4, 5, 6, 7, 8] rfl ?_
            exact hJ14 (t6.1, t6.2.1)
          · refine x_aload_n C 0 dX13_outAt_57 rfl rfl ?_
            refine x_iload C 8 dX13_outAt_58 rfl ?_
            refine x_iconst C (5) dX13_outAt_60 rfl ?_
            refine x_callV C (ct_X13_stageOf _ _ t6.2.2 5 σ) mt_X13_stageOf vr_X13_stageOf wd2018 cls_X13 at_X13 rfl ⟨rfl, rfl, Nat.le_of_ble_eq_true rfl, Nat.le_of_ble_eq_true rfl⟩ rfl (by decide) dX13_outAt_61 (kI (fun v19 => ?_))
            refine x_iload C 5 dX13_outAt_64 rfl ?_
            refine x_icmp_gt C 72 rfl rfl dX13_outAt_66 rfl (fun c20 => x_op c20 ?_) (fun c20 => x_on c20 ?_)
            · refine x_aload_n C 0 dX13_outAt_72 rfl rfl ?_
              refine x_iload C 8 dX13_outAt_73 rfl ?_
              refine x_iconst C (5) dX13_outAt_75 rfl ?_
              refine x_callV C (ct_X13_stageOf _ _ t6.2.2 5 σ) mt_X13_stageOf vr_X13_stageOf wd2018 cls_X13 at_X13 rfl ⟨rfl, rfl, Nat.le_of_ble_eq_true rfl, Nat.le_of_ble_eq_true rfl⟩ rfl (by decide) dX13_outAt_76 (kI (fun v21 => ?_))
              refine x_iload C 6 dX13_outAt_79 rfl ?_
              refine x_join (fun J => ∀ q24 : Int, WO X Qf WW σ 87 [(0, .ref (xqa (xXE X).2.2 184)), (1, .ref (xqa (xXE X).2.2 k1)), (2, iV p2), (3, iV p3), (4, iV t2.1), (5, iV t2.2), (6, iV t6.1), (7, iV q24), (8, iV t6.2.2)] [] (J q24)) ?_ ?_
              · intro q24
                refine x_aload_n C 0 dX13_outAt_87 rfl rfl ?_
                refine x_iload C 6 dX13_outAt_88 rfl ?_
                refine x_aload_n C 0 dX13_outAt_90 rfl rfl ?_
                refine x_iload C 8 dX13_outAt_91 rfl ?_
                refine x_iconst C (5) dX13_outAt_93 rfl ?_
                refine x_callV C (ct_X13_stageOf _ _ t6.2.2 5 σ) mt_X13_stageOf vr_X13_stageOf wd2018 cls_X13 at_X13 rfl ⟨rfl, rfl, Nat.le_of_ble_eq_true rfl, Nat.le_of_ble_eq_true rfl⟩ rfl (Nat.le_of_ble_eq_true rfl) dX13_outAt_94 (kI (fun v25 => ?_))
                refine x_callV C (ct_X13_lesser _ _ t6.1 v25 σ) mt_X13_lesser vr_X13_lesser wd1933 cls_X13 at_X13 rfl ⟨rfl, rfl, Nat.le_of_ble_eq_true rfl, Nat.le_of_ble_eq_true rfl⟩ rfl (by decide) dX13_outAt_97 (kP ?_)
                refine x_letI (fun v26 => ?_)
                refine x_istore (L' := [(6, _), (0, _), (1, _), (2, _), (3, _), (4, _), (5, _), (7, _), (8, _)]) C dX13_outAt_100 (by decide) rfl ?_
                refine x_iload C 7 dX13_outAt_102 rfl ?_
                refine x_aload_n C 1 dX13_outAt_104 rfl rfl ?_
                refine x_iload C 8 dX13_outAt_105 rfl ?_
                refine x_iconst C (5) dX13_outAt_107 rfl ?_
                refine x_callV C (ct_X13_stageOf _ _ t6.2.2 5 σ) mt_X13_stageOf vr_X13_stageOf wd2018 cls_X13 at_X13 rfl ⟨rfl, rfl, Nat.le_of_ble_eq_true rfl, Nat.le_of_ble_eq_true rfl⟩ rfl (Nat.le_of_ble_eq_true rfl) dX13_outAt_108 (kI (fun v27 => ?_))
                refine x_iload C 0 dX13_outAt_111 rfl ?_
                refine x_tree 121 [iV q24] (fun v28 => ?_) (fun hJ30 => ?_)
                · refine x_iadd C dX13_outAt_121 ?_
                  refine x_letI (fun v29 => ?_)
                  refine x_istore (L' := [(7, _), (6, _), (0, _), (1, _), (2, _), (3, _), (4, _), (5, _), (8, _)]) C dX13_outAt_122 (by decide) rfl ?_
                  refine x_pick [2, 3, 4, 5, 6, 7, 1, 0, 8] rfl ?_
                  exact hJ14 (v26, v29)
                · refine x_icmp_ne C 120 rfl rfl dX13_outAt_113 rfl (fun c31 => ?_) (fun c31 => ?_)
                  · refine x_iconst C (0) dX13_outAt_120 rfl ?_
                    exact hJ30 _ (by rw [if_neg c31])
                  · refine x_iconst C (1) dX13_outAt_116 rfl ?_
                    refine x_goto C 121 dX13_outAt_117 rfl ?_
                    exact hJ30 _ (by rw [if_pos c31])
              · intro J22 hJ23
                refine x_icmp_ge C 87 rfl rfl dX13_outAt_81 rfl (fun c32 => x_op c32 ?_) (fun c32 => x_on c32 ?_)
                · refine x_pick [0, 1, 2, 3, 4, 5, 6, 7, 8] rfl ?_
                  exact hJ23 t6.2.1
                · refine x_iconst C (0) dX13_outAt_84 rfl ?_
                  refine x_istore (L' := [(7, _), (0, _), (1, _), (2, _), (3, _), (4, _), (5, _), (6, _), (8, _)]) C dX13_outAt_85 (by decide) rfl ?_
                  refine x_pick [1, 2, 3, 4, 5, 6, 7, 0, 8] rfl ?_
                  exact hJ23 0
            · refine x_goto C 124 dX13_outAt_69 rfl ?_
              refine x_pick [0, 1, 2, 3, 4, 5, 6, 7, 8] rfl ?_
              exact hJ14 (t6.1, t6.2.1)
theorem ct_X13_outAt (l : Launch) (E : xE) (n : Nat) (k1 : Nat) (p2 : Int) (p3 : Int) (σ : xS) (hk1 : xAt WW k1 0 289)  : xMet l E yX13_outAt cX13_outAt 9 (some .int) { frames := 1, cells := 0, slots := 0, locals := 23 } [.ref (xqa E.2.2 184), .ref (xqa E.2.2 k1), iV p2, iV p3] WW WW σ (xrI (m_X13_outAt n k1 p2 p3 σ) σ) := by
  refine xMet.of0 (by decide) (Nat.le_of_ble_eq_true rfl) rfl rfl (fun X hE C => ?_)
  subst hE
  exact xMap (fun v => (some (iV v), σ)) (wk_X13_outAt C (fun _ => rfl) hk1)
theorem mt_X13_outAt : xMth yX13_outAt cX13_outAt 9 (some .int) 3 := ⟨wd2094, wd164, ⟨by decide, by decide, rfl⟩⟩
theorem vr_X13_outAt : xVir yX13_outAt := ⟨wd2093, wd125⟩
def m_X13_isReady (n : Nat) (k1 : Nat) (p2 : Int) (σ : xS) : Option Int :=
  (m_X13_isMeant k1 p2 σ).bind fun v1 => xj (fun (q6 : Int) => xbo q6 (some q6)) fun J4 => xj (fun (q9 : Unit) => J4 0) fun J7 => if (zI v1) = 0 then J7 () else (m_X13_givenAhead n k1 p2 σ).bind fun v11 => (m_X13_order k1 p2 2 σ).bind fun v12 => (m_X13_order k1 p2 1 σ).bind fun v13 => (m_X13_bakedLoaves n k1 v13 σ).bind fun v14 => if (zI v14) < (zI (v11 + v12)) then J7 () else J4 1
set_option maxHeartbeats 4000000 in
set_option maxRecDepth 100000 in
theorem wk_X13_isReady {X : xX} {Qf : Int → State → Prop} {n : Nat} {k1 : Nat} {p2 : Int} {σ : xS} (C : xCx X cX13_isReady "BakeryNightModel" (some .boolean) { frames := 3, cells := 0, slots := 0, locals := 70 } 3) (hQ : ∀ v, Qf v = xQf X WW (some (iV v), σ)) (hk1 : xAt WW k1 0 289) : WO X Qf WW σ 0 [(0, .ref (xqa (xXE X).2.2 184)), (1, .ref (xqa (xXE X).2.2 k1)), (2, iV p2)] [] (m_X13_isReady n k1 p2 σ) := by
  unfold m_X13_isReady
  refine x_aload_n C 0 dX13_isReady_0 rfl rfl ?_
  refine x_aload_n C 1 dX13_isReady_1 rfl rfl ?_
  refine x_iload_n C 2 dX13_isReady_2 rfl rfl ?_
  refine x_callV C (ct_X13_isMeant _ _ k1 p2 σ hk1) mt_X13_isMeant vr_X13_isMeant wd1875 cls_X13 at_X13 rfl ⟨rfl, rfl, Nat.le_of_ble_eq_true rfl, Nat.le_of_ble_eq_true rfl⟩ rfl (by decide) dX13_isReady_3 (kI (fun v1 => ?_))
  refine x_join (fun J => ∀ q6 : Int, WO X Qf WW σ 43 [] [iV q6] (J q6)) ?_ ?_
  · intro q6
    exact x_bo (fun hb => x_zretQ C (hQ _) rfl hb dX13_isReady_43)
  · intro J4 hJ5
    refine x_join (fun J => ∀ q9 : Unit, WO X Qf WW σ 42 [] [] (J q9)) ?_ ?_
    · intro q9
      refine x_iconst C (0) dX13_isReady_42 rfl ?_
      refine x_pick [] rfl ?_
      exact hJ5 0
    · intro J7 hJ8
      refine x_if_eq C 42 rfl dX13_isReady_6 rfl (fun c10 => x_op c10 ?_) (fun c10 => x_on c10 ?_)
      · refine x_pick [] rfl ?_
        exact hJ8 ()
      · refine x_aload_n C 0 dX13_isReady_9 rfl rfl ?_
        refine x_aload_n C 1 dX13_isReady_10 rfl rfl ?_
        refine x_iload_n C 2 dX13_isReady_11 rfl rfl ?_
        refine x_callV C (ct_X13_givenAhead _ _ n k1 p2 σ hk1) mt_X13_givenAhead vr_X13_givenAhead wd2079 cls_X13 at_X13 rfl ⟨rfl, rfl, Nat.le_of_ble_eq_true rfl, Nat.le_of_ble_eq_true rfl⟩ rfl (by decide) dX13_isReady_12 (kI (fun v11 => ?_))
        refine x_aload_n C 0 dX13_isReady_15 rfl rfl ?_
        refine x_aload_n C 1 dX13_isReady_16 rfl rfl ?_
        refine x_iload_n C 2 dX13_isReady_17 rfl rfl ?_
        refine x_iconst C (2) dX13_isReady_18 rfl ?_
        refine x_callV C (ct_X13_order _ _ k1 p2 2 σ hk1) mt_X13_order vr_X13_order wd1879 cls_X13 at_X13 rfl ⟨rfl, rfl, Nat.le_of_ble_eq_true rfl, Nat.le_of_ble_eq_true rfl⟩ rfl (Nat.le_of_ble_eq_true rfl) dX13_isReady_19 (kI (fun v12 => ?_))
        refine x_iadd C dX13_isReady_22 ?_
        refine x_aload_n C 0 dX13_isReady_23 rfl rfl ?_
        refine x_aload_n C 1 dX13_isReady_24 rfl rfl ?_
        refine x_aload_n C 0 dX13_isReady_25 rfl rfl ?_
        refine x_aload_n C 1 dX13_isReady_26 rfl rfl ?_
        refine x_iload_n C 2 dX13_isReady_27 rfl rfl ?_
        refine x_iconst C (1) dX13_isReady_28 rfl ?_
        refine x_callV C (ct_X13_order _ _ k1 p2 1 σ hk1) mt_X13_order vr_X13_order wd1879 cls_X13 at_X13 rfl ⟨rfl, rfl, Nat.le_of_ble_eq_true rfl, Nat.le_of_ble_eq_true rfl⟩ rfl (Nat.le_of_ble_eq_true rfl) dX13_isReady_29 (kI (fun v13 => ?_))
        refine x_callV C (ct_X13_bakedLoaves _ _ n k1 v13 σ hk1) mt_X13_bakedLoaves vr_X13_bakedLoaves wd2087 cls_X13 at_X13 rfl ⟨rfl, rfl, Nat.le_of_ble_eq_true rfl, Nat.le_of_ble_eq_true rfl⟩ rfl (Nat.le_of_ble_eq_true rfl) dX13_isReady_32 (kI (fun v14 => ?_))
        refine x_icmp_gt C 42 rfl rfl dX13_isReady_35 rfl (fun c15 => x_op c15 ?_) (fun c15 => x_on c15 ?_)
        · refine x_pick [] rfl ?_
          exact hJ8 ()
        · refine x_iconst C (1) dX13_isReady_38 rfl ?_
          refine x_goto C 43 dX13_isReady_39 rfl ?_
          refine x_pick [] rfl ?_
          exact hJ5 1
theorem ct_X13_isReady (l : Launch) (E : xE) (n : Nat) (k1 : Nat) (p2 : Int) (σ : xS) (hk1 : xAt WW k1 0 289)  : xMet l E yX13_isReady cX13_isReady 3 (some .boolean) { frames := 3, cells := 0, slots := 0, locals := 70 } [.ref (xqa E.2.2 184), .ref (xqa E.2.2 k1), iV p2] WW WW σ (xrI (m_X13_isReady n k1 p2 σ) σ) := by
  refine xMet.of0 (by decide) (Nat.le_of_ble_eq_true rfl) rfl rfl (fun X hE C => ?_)
  subst hE
  exact xMap (fun v => (some (iV v), σ)) (wk_X13_isReady C (fun _ => rfl) hk1)
theorem mt_X13_isReady : xMth yX13_isReady cX13_isReady 3 (some .boolean) 2 := ⟨wd2078, wd164, ⟨by decide, by decide, rfl⟩⟩
theorem vr_X13_isReady : xVir yX13_isReady := ⟨wd2077, wd121⟩
def m_X13_readyAt (n : Nat) (k1 : Nat) (p2 : Int) (σ : xS) : Option Int :=
  (m_X13_isReady n k1 p2 σ).bind fun v1 => xj (fun (q5 : Int) => some q5) fun J3 => if (zI v1) = 0 then J3 (-1) else (m_X13_order k1 p2 1 σ).bind fun v7 => (m_X13_givenAhead n k1 p2 σ).bind fun v8 => (m_X13_order k1 p2 2 σ).bind fun v9 => (m_X13_outAt n k1 v7 ((v8 + v9) - 1) σ).bind fun v10 => xck 1 289 <| J3 (v10 + (σ k1 (1 : Int).toNat))
set_option maxHeartbeats 4000000 in
set_option maxRecDepth 100000 in
theorem wk_X13_readyAt {X : xX} {Qf : Int → State → Prop} {n : Nat} {k1 : Nat} {p2 : Int} {σ : xS} (C : xCx X cX13_readyAt "BakeryNightModel" (some .int) { frames := 4, cells := 0, slots := 0, locals := 92 } 3) (hQ : ∀ v, Qf v = xQf X WW (some (iV v), σ)) (hk1 : xAt WW k1 0 289) : WO X Qf WW σ 0 [(0, .ref (xqa (xXE X).2.2 184)), (1, .ref (xqa (xXE X).2.2 k1)), (2, iV p2)] [] (m_X13_readyAt n k1 p2 σ) := by
  unfold m_X13_readyAt
  refine x_aload_n C 0 dX13_readyAt_0 rfl rfl ?_
  refine x_aload_n C 1 dX13_readyAt_1 rfl rfl ?_
  refine x_iload_n C 2 dX13_readyAt_2 rfl rfl ?_
  refine x_callV C (ct_X13_isReady _ _ n k1 p2 σ hk1) mt_X13_isReady vr_X13_isReady wd2075 cls_X13 at_X13 rfl ⟨rfl, rfl, Nat.le_of_ble_eq_true rfl, Nat.le_of_ble_eq_true rfl⟩ rfl (by decide) dX13_readyAt_3 (kI (fun v1 => ?_))
  refine x_join (fun J => ∀ q5 : Int, WO X Qf WW σ 45 [] [iV q5] (J q5)) ?_ ?_
  · intro q5
    exact x_iretQ C (hQ _) rfl dX13_readyAt_45
  · intro J3 hJ4
    refine x_if_eq C 44 rfl dX13_readyAt_6 rfl (fun c6 => x_op c6 ?_) (fun c6 => x_on c6 ?_)
    · refine x_iconst C (-1) dX13_readyAt_44 rfl ?_
      refine x_pick [] rfl ?_
      exact hJ4 (-1)
    · refine x_aload_n C 0 dX13_readyAt_9 rfl rfl ?_
      refine x_aload_n C 1 dX13_readyAt_10 rfl rfl ?_
      refine x_aload_n C 0 dX13_readyAt_11 rfl rfl ?_
      refine x_aload_n C 1 dX13_readyAt_12 rfl rfl ?_
      refine x_iload_n C 2 dX13_readyAt_13 rfl rfl ?_
      refine x_iconst C (1) dX13_readyAt_14 rfl ?_
      refine x_callV C (ct_X13_order _ _ k1 p2 1 σ hk1) mt_X13_order vr_X13_order wd1879 cls_X13 at_X13 rfl ⟨rfl, rfl, Nat.le_of_ble_eq_true rfl, Nat.le_of_ble_eq_true rfl⟩ rfl (Nat.le_of_ble_eq_true rfl) dX13_readyAt_15 (kI (fun v7 => ?_))
      refine x_aload_n C 0 dX13_readyAt_18 rfl rfl ?_
      refine x_aload_n C 1 dX13_readyAt_19 rfl rfl ?_
      refine x_iload_n C 2 dX13_readyAt_20 rfl rfl ?_
      refine x_callV C (ct_X13_givenAhead _ _ n k1 p2 σ hk1) mt_X13_givenAhead vr_X13_givenAhead wd2079 cls_X13 at_X13 rfl ⟨rfl, rfl, Nat.le_of_ble_eq_true rfl, Nat.le_of_ble_eq_true rfl⟩ rfl (Nat.le_of_ble_eq_true rfl) dX13_readyAt_21 (kI (fun v8 => ?_))
      refine x_aload_n C 0 dX13_readyAt_24 rfl rfl ?_
      refine x_aload_n C 1 dX13_readyAt_25 rfl rfl ?_
      refine x_iload_n C 2 dX13_readyAt_26 rfl rfl ?_
      refine x_iconst C (2) dX13_readyAt_27 rfl ?_
      refine x_callV C (ct_X13_order _ _ k1 p2 2 σ hk1) mt_X13_order vr_X13_order wd1879 cls_X13 at_X13 rfl ⟨rfl, rfl, Nat.le_of_ble_eq_true rfl, Nat.le_of_ble_eq_true rfl⟩ rfl (Nat.le_of_ble_eq_true rfl) dX13_readyAt_28 (kI (fun v9 => ?_))
      refine x_iadd C dX13_readyAt_31 ?_
      refine x_iconst C (1) dX13_readyAt_32 rfl ?_
      refine x_isub C dX13_readyAt_33 ?_
      refine x_callV C (ct_X13_outAt _ _ n k1 v7 ((v8 + v9) - 1) σ hk1) mt_X13_outAt vr_X13_outAt wd2091 cls_X13 at_X13 rfl ⟨rfl, rfl, Nat.le_of_ble_eq_true rfl, Nat.le_of_ble_eq_true rfl⟩ rfl (by decide) dX13_readyAt_34 (kI (fun v10 => ?_))
      refine x_aload_n C 1 dX13_readyAt_37 rfl rfl ?_
      refine x_iconst C (1) dX13_readyAt_38 rfl ?_
      refine x_iald C hk1 (zIl _ rfl) dX13_readyAt_39 (fun _ => ?_)
      refine x_iadd C dX13_readyAt_40 ?_
      refine x_goto C 45 dX13_readyAt_41 rfl ?_
      refine x_pick [] rfl ?_
      exact hJ4 (v10 + (σ k1 (1 : Int).toNat))
theorem ct_X13_readyAt (l : Launch) (E : xE) (n : Nat) (k1 : Nat) (p2 : Int) (σ : xS) (hk1 : xAt WW k1 0 289)  : xMet l E yX13_readyAt cX13_readyAt 3 (some .int) { frames := 4, cells := 0, slots := 0, locals := 92 } [.ref (xqa E.2.2 184), .ref (xqa E.2.2 k1), iV p2] WW WW σ (xrI (m_X13_readyAt n k1 p2 σ) σ) := by
  refine xMet.of0 (by decide) (Nat.le_of_ble_eq_true rfl) rfl rfl (fun X hE C => ?_)
  subst hE
  exact xMap (fun v => (some (iV v), σ)) (wk_X13_readyAt C (fun _ => rfl) hk1)
theorem mt_X13_readyAt : xMth yX13_readyAt cX13_readyAt 3 (some .int) 2 := ⟨wd2074, wd164, ⟨by decide, by decide, rfl⟩⟩
theorem vr_X13_readyAt : xVir yX13_readyAt := ⟨wd2073, wd120⟩
def m_X13_readyMinute (n : Nat) (p1 : Int) (σ : xS) : Option (Int × xS) :=
  xbS (m_X13_isNight n σ) fun v2 s1 => if (zI v2) = 0 then some ((-2), s1) else xck 9 289 <| if (m_X13_isIn (zI p1) 0 ((zI (s1 185 (9 : Int).toNat)) - 1)) = 0 then some ((-1), s1) else (m_X13_readyAt n 185 p1 s1).bind fun v5 => xlet (if (zI v5) = (-1) then (-1) else (s1 184 6) + v5) fun v6 => some (v6, s1)
set_option maxHeartbeats 4000000 in
set_option maxRecDepth 100000 in
theorem wk_X13_readyMinute {X : xX} {Qf : (Int × xS) → State → Prop} {n : Nat} {p1 : Int} {σ : xS} (C : xCx X cX13_readyMinute "BakeryNightModel" (some .int) { frames := 8, cells := 0, slots := 0, locals := 180 } 3) (hQ : ∀ v τ, Qf (v, τ) = xQf X WW (some (iV v), τ))  : WO X Qf WW σ 0 [(0, .ref (xqa (xXE X).2.2 184)), (1, iV p1)] [] (m_X13_readyMinute n p1 σ) := by
  unfold m_X13_readyMinute
  refine x_aload_n C 0 dX13_readyMinute_0 rfl rfl ?_
  refine x_callV C (ct_X13_isNight _ _ n σ) mt_X13_isNight vr_X13_isNight wd2005 cls_X13 at_X13 rfl ⟨rfl, rfl, Nat.le_of_ble_eq_true rfl, Nat.le_of_ble_eq_true rfl⟩ rfl (by decide) dX13_readyMinute_1 (kS (fun v2 s1 => ?_))
  refine x_if_ne C 10 rfl dX13_readyMinute_4 rfl (fun c3 => x_on c3 ?_) (fun c3 => x_op c3 ?_)
  · refine x_aload_n C 0 dX13_readyMinute_10 rfl rfl ?_
    refine x_iload_n C 1 dX13_readyMinute_11 rfl rfl ?_
    refine x_i2l C dX13_readyMinute_12 ?_
    refine x_lconst C 0 dX13_readyMinute_13 rfl ?_
    refine x_aload_n C 0 dX13_readyMinute_14 rfl rfl ?_
    refine x_get (v := .ref (xqa (xXE X).2.2 185)) C 0 cls_X13 at_X13 (by decide) wd1502 rfl (xV_r (rt_X13_bakery  _) rfl) dX13_readyMinute_15 ?_
    refine x_bipush C (9) dX13_readyMinute_18 rfl ?_
    refine x_iald C at_X13_bakery (zIl _ rfl) dX13_readyMinute_20 (fun _ => ?_)
    refine x_i2l C dX13_readyMinute_21 ?_
    refine x_lconst C 1 dX13_readyMinute_22 rfl ?_
    refine x_lsub C dX13_readyMinute_23 ?_
    refine x_callV C (ct_X13_isIn _ _ (zI p1) 0 ((zI (s1 185 (9 : Int).toNat)) - 1) s1) mt_X13_isIn vr_X13_isIn wd1680 cls_X13 at_X13 rfl ⟨rfl, rfl, Nat.le_of_ble_eq_true rfl, Nat.le_of_ble_eq_true rfl⟩ rfl (by decide) dX13_readyMinute_24 (kP ?_)
    refine x_if_ne C 32 (zI_bo (bo_X13_isIn _ _ _)) dX13_readyMinute_27 rfl (fun c4 => x_on c4 ?_) (fun c4 => x_op c4 ?_)
    · refine x_aload_n C 0 dX13_readyMinute_32 rfl rfl ?_
      refine x_aload_n C 0 dX13_readyMinute_33 rfl rfl ?_
      refine x_get (v := .ref (xqa (xXE X).2.2 185)) C 0 cls_X13 at_X13 (by decide) wd1502 rfl (xV_r (rt_X13_bakery  _) rfl) dX13_readyMinute_34 ?_
      refine x_iload_n C 1 dX13_readyMinute_37 rfl rfl ?_
      refine x_callV C (ct_X13_readyAt _ _ n 185 p1 s1 at_X13_bakery) mt_X13_readyAt vr_X13_readyAt wd2071 cls_X13 at_X13 rfl ⟨rfl, rfl, Nat.le_of_ble_eq_true rfl, Nat.le_of_ble_eq_true rfl⟩ rfl (by decide) dX13_readyMinute_38 (kI (fun v5 => ?_))
      refine x_istore_n (L' := [(2, _), (0, _), (1, _)]) C dX13_readyMinute_41 rfl (by decide) rfl ?_
      refine x_iload_n C 0 dX13_readyMinute_42 rfl rfl ?_
      refine x_iconst C (-1) dX13_readyMinute_43 rfl ?_
      refine x_tree 57 [] (fun v6 => ?_) (fun hJ7 => ?_)
      · exact x_iretQ C (hQ _ _) rfl dX13_readyMinute_57
      · refine x_icmp_ne C 51 rfl (zIl _ rfl) dX13_readyMinute_44 rfl (fun c8 => ?_) (fun c8 => ?_)
        · refine x_aload_n C 1 dX13_readyMinute_51 rfl rfl ?_
          refine x_get (v := iV (s1 184 6)) C 6 cls_X13 at_X13 (by decide) wd1508 rfl rfl dX13_readyMinute_52 ?_
          refine x_iload_n C 0 dX13_readyMinute_55 rfl rfl ?_
          refine x_iadd C dX13_readyMinute_56 ?_
          exact hJ7 _ (by rw [if_neg c8])
        · refine x_iconst C (-1) dX13_readyMinute_47 rfl ?_
          refine x_goto C 57 dX13_readyMinute_48 rfl ?_
          exact hJ7 _ (by rw [if_pos c8])
    · refine x_iconst C (-1) dX13_readyMinute_30 rfl ?_
      exact x_iretQ C (hQ _ _) rfl dX13_readyMinute_31
  · refine x_bipush C (-2) dX13_readyMinute_7 rfl ?_
    exact x_iretQ C (hQ _ _) rfl dX13_readyMinute_9
theorem ct_X13_readyMinute (l : Launch) (E : xE) (n : Nat) (p1 : Int) (σ : xS)   : xMet l E yX13_readyMinute cX13_readyMinute 3 (some .int) { frames := 8, cells := 0, slots := 0, locals := 180 } [.ref (xqa E.2.2 184), iV p1] WW WW σ (xrS (m_X13_readyMinute n p1 σ)) := by
  refine xMet.of0 (by decide) (Nat.le_of_ble_eq_true rfl) rfl rfl (fun X hE C => ?_)
  subst hE
  exact xMap (fun q => (some (iV q.1), q.2)) (wk_X13_readyMinute C (fun _ _ => rfl) )
theorem mt_X13_readyMinute : xMth yX13_readyMinute cX13_readyMinute 3 (some .int) 1 := ⟨wd2070, wd164, ⟨by decide, by decide, rfl⟩⟩
theorem vr_X13_readyMinute : xVir yX13_readyMinute := ⟨wd2068, wd2069⟩
def m_X13_surplusLoaves (n : Nat) (p1 : Int) (σ : xS) : Option (Int × xS) :=
  xbS (m_X13_isNight n σ) fun v2 s1 => if (zI v2) = 0 then some ((-2), s1) else (m_X13_isDough p1 s1).bind fun v4 => xj (fun (q8 : Int) => some (q8, s1)) fun J6 => if (zI v4) = 0 then J6 (-1) else (m_X13_bakedLoaves n 185 p1 s1).bind fun v10 => (m_X13_loavesOf n 185 p1 s1).bind fun v11 => J6 (m_X13_greater 0 (v10 - v11))
set_option maxHeartbeats 4000000 in
set_option maxRecDepth 100000 in
theorem wk_X13_surplusLoaves {X : xX} {Qf : (Int × xS) → State → Prop} {n : Nat} {p1 : Int} {σ : xS} (C : xCx X cX13_surplusLoaves "BakeryNightModel" (some .int) { frames := 8, cells := 0, slots := 0, locals := 180 } 2) (hQ : ∀ v τ, Qf (v, τ) = xQf X WW (some (iV v), τ))  : WO X Qf WW σ 0 [(0, .ref (xqa (xXE X).2.2 184)), (1, iV p1)] [] (m_X13_surplusLoaves n p1 σ) := by
  unfold m_X13_surplusLoaves
  refine x_aload_n C 0 dX13_surplusLoaves_0 rfl rfl ?_
  refine x_callV C (ct_X13_isNight _ _ n σ) mt_X13_isNight vr_X13_isNight wd2005 cls_X13 at_X13 rfl ⟨rfl, rfl, Nat.le_of_ble_eq_true rfl, Nat.le_of_ble_eq_true rfl⟩ rfl (by decide) dX13_surplusLoaves_1 (kS (fun v2 s1 => ?_))
  refine x_if_ne C 10 rfl dX13_surplusLoaves_4 rfl (fun c3 => x_on c3 ?_) (fun c3 => x_op c3 ?_)
  · refine x_aload_n C 0 dX13_surplusLoaves_10 rfl rfl ?_
    refine x_iload_n C 1 dX13_surplusLoaves_11 rfl rfl ?_
    refine x_callV C (ct_X13_isDough _ _ p1 s1) mt_X13_isDough vr_X13_isDough wd1867 cls_X13 at_X13 rfl ⟨rfl, rfl, Nat.le_of_ble_eq_true rfl, Nat.le_of_ble_eq_true rfl⟩ rfl (by decide) dX13_surplusLoaves_12 (kI (fun v4 => ?_))
    refine x_join (fun J => ∀ q8 : Int, WO X Qf WW s1 46 [] [iV q8] (J q8)) ?_ ?_
    · intro q8
      exact x_iretQ C (hQ _ _) rfl dX13_surplusLoaves_46
    · intro J6 hJ7
      refine x_if_eq C 45 rfl dX13_surplusLoaves_15 rfl (fun c9 => x_op c9 ?_) (fun c9 => x_on c9 ?_)
      · refine x_iconst C (-1) dX13_surplusLoaves_45 rfl ?_
        refine x_pick [] rfl ?_
        exact hJ7 (-1)
      · refine x_aload_n C 0 dX13_surplusLoaves_18 rfl rfl ?_
        refine x_iconst C (0) dX13_surplusLoaves_19 rfl ?_
        refine x_aload_n C 0 dX13_surplusLoaves_20 rfl rfl ?_
        refine x_aload_n C 0 dX13_surplusLoaves_21 rfl rfl ?_
        refine x_get (v := .ref (xqa (xXE X).2.2 185)) C 0 cls_X13 at_X13 (by decide) wd1502 rfl (xV_r (rt_X13_bakery  _) rfl) dX13_surplusLoaves_22 ?_
        refine x_iload_n C 1 dX13_surplusLoaves_25 rfl rfl ?_
        refine x_callV C (ct_X13_bakedLoaves _ _ n 185 p1 s1 at_X13_bakery) mt_X13_bakedLoaves vr_X13_bakedLoaves wd2087 cls_X13 at_X13 rfl ⟨rfl, rfl, Nat.le_of_ble_eq_true rfl, Nat.le_of_ble_eq_true rfl⟩ rfl (Nat.le_of_ble_eq_true rfl) dX13_surplusLoaves_26 (kI (fun v10 => ?_))
        refine x_aload_n C 0 dX13_surplusLoaves_29 rfl rfl ?_
        refine x_aload_n C 0 dX13_surplusLoaves_30 rfl rfl ?_
        refine x_get (v := .ref (xqa (xXE X).2.2 185)) C 0 cls_X13 at_X13 (by decide) wd1502 rfl (xV_r (rt_X13_bakery  _) rfl) dX13_surplusLoaves_31 ?_
        refine x_iload_n C 1 dX13_surplusLoaves_34 rfl rfl ?_
        refine x_callV C (ct_X13_loavesOf _ _ n 185 p1 s1 at_X13_bakery) mt_X13_loavesOf vr_X13_loavesOf wd1871 cls_X13 at_X13 rfl ⟨rfl, rfl, Nat.le_of_ble_eq_true rfl, Nat.le_of_ble_eq_true rfl⟩ rfl (Nat.le_of_ble_eq_true rfl) dX13_surplusLoaves_35 (kI (fun v11 => ?_))
        refine x_isub C dX13_surplusLoaves_38 ?_
        refine x_callV C (ct_X13_greater _ _ 0 (v10 - v11) s1) mt_X13_greater vr_X13_greater wd1835 cls_X13 at_X13 rfl ⟨rfl, rfl, Nat.le_of_ble_eq_true rfl, Nat.le_of_ble_eq_true rfl⟩ rfl (by decide) dX13_surplusLoaves_39 (kP ?_)
        refine x_goto C 46 dX13_surplusLoaves_42 rfl ?_
        refine x_pick [] rfl ?_
        exact hJ7 (m_X13_greater 0 (v10 - v11))
  · refine x_bipush C (-2) dX13_surplusLoaves_7 rfl ?_
    exact x_iretQ C (hQ _ _) rfl dX13_surplusLoaves_9
theorem ct_X13_surplusLoaves (l : Launch) (E : xE) (n : Nat) (p1 : Int) (σ : xS)   : xMet l E yX13_surplusLoaves cX13_surplusLoaves 2 (some .int) { frames := 8, cells := 0, slots := 0, locals := 180 } [.ref (xqa E.2.2 184), iV p1] WW WW σ (xrS (m_X13_surplusLoaves n p1 σ)) := by
  refine xMet.of0 (by decide) (Nat.le_of_ble_eq_true rfl) rfl rfl (fun X hE C => ?_)
  subst hE
  exact xMap (fun q => (some (iV q.1), q.2)) (wk_X13_surplusLoaves C (fun _ _ => rfl) )
theorem mt_X13_surplusLoaves : xMth yX13_surplusLoaves cX13_surplusLoaves 2 (some .int) 1 := ⟨wd2098, wd164, ⟨by decide, by decide, rfl⟩⟩
theorem vr_X13_surplusLoaves : xVir yX13_surplusLoaves := ⟨wd2096, wd2097⟩
def m_X13_valueOf (p1 : Int) (p2 : Int) (σ : xS) : Option Int :=
  (m_X13_dough 185 p1 8 σ).bind fun v1 => xj (fun (q5 : Int) => some q5) fun J3 => if (m_X13_isIn (zI p2) 0 (zI v1)) = 0 then J3 0 else (m_X13_dough 185 p1 9 σ).bind fun v7 => xnz (zI v1) <| J3 ((zI (v7 * (v1 - p2))).tdiv (zI v1))
set_option maxHeartbeats 4000000 in
set_option maxRecDepth 100000 in
theorem wk_X13_valueOf {X : xX} {Qf : Int → State → Prop} {p1 : Int} {p2 : Int} {σ : xS} (C : xCx X cX13_valueOf "BakeryNightModel" (some .int) { frames := 1, cells := 0, slots := 0, locals := 26 } 4) (hQ : ∀ v, Qf v = xQf X WW (some (iV v), σ))  : WO X Qf WW σ 0 [(0, .ref (xqa (xXE X).2.2 184)), (1, iV p1), (2, iV p2)] [] (m_X13_valueOf p1 p2 σ) := by
  unfold m_X13_valueOf
  refine x_aload_n C 0 dX13_valueOf_0 rfl rfl ?_
  refine x_aload_n C 0 dX13_valueOf_1 rfl rfl ?_
  refine x_get (v := .ref (xqa (xXE X).2.2 185)) C 0 cls_X13 at_X13 (by decide) wd1502 rfl (xV_r (rt_X13_bakery  _) rfl) dX13_valueOf_2 ?_
  refine x_iload_n C 1 dX13_valueOf_5 rfl rfl ?_
  refine x_bipush C (8) dX13_valueOf_6 rfl ?_
  refine x_callV C (ct_X13_dough _ _ 185 p1 8 σ at_X13_bakery) mt_X13_dough vr_X13_dough wd1895 cls_X13 at_X13 rfl ⟨rfl, rfl, Nat.le_of_ble_eq_true rfl, Nat.le_of_ble_eq_true rfl⟩ rfl (by decide) dX13_valueOf_8 (kI (fun v1 => ?_))
  refine x_istore_n (L' := [(3, _), (0, _), (1, _), (2, _)]) C dX13_valueOf_11 rfl (by decide) rfl ?_
  refine x_aload_n C 1 dX13_valueOf_12 rfl rfl ?_
  refine x_iload_n C 3 dX13_valueOf_13 rfl rfl ?_
  refine x_i2l C dX13_valueOf_14 ?_
  refine x_lconst C 0 dX13_valueOf_15 rfl ?_
  refine x_iload_n C 0 dX13_valueOf_16 rfl rfl ?_
  refine x_i2l C dX13_valueOf_17 ?_
  refine x_callV C (ct_X13_isIn _ _ (zI p2) 0 (zI v1) σ) mt_X13_isIn vr_X13_isIn wd1680 cls_X13 at_X13 rfl ⟨rfl, rfl, Nat.le_of_ble_eq_true rfl, Nat.le_of_ble_eq_true rfl⟩ rfl (by decide) dX13_valueOf_18 (kP ?_)
  refine x_join (fun J => ∀ q5 : Int, WO X Qf WW σ 45 [] [iV q5] (J q5)) ?_ ?_
  · intro q5
    exact x_iretQ C (hQ _) rfl dX13_valueOf_45
  · intro J3 hJ4
    refine x_if_eq C 44 (zI_bo (bo_X13_isIn _ _ _)) dX13_valueOf_21 rfl (fun c6 => x_op c6 ?_) (fun c6 => x_on c6 ?_)
    · refine x_iconst C (0) dX13_valueOf_44 rfl ?_
      refine x_pick [] rfl ?_
      exact hJ4 0
    · refine x_aload_n C 1 dX13_valueOf_24 rfl rfl ?_
      refine x_aload_n C 1 dX13_valueOf_25 rfl rfl ?_
      refine x_get (v := .ref (xqa (xXE X).2.2 185)) C 0 cls_X13 at_X13 (by decide) wd1502 rfl (xV_r (rt_X13_bakery  _) rfl) dX13_valueOf_26 ?_
      refine x_iload_n C 2 dX13_valueOf_29 rfl rfl ?_
      refine x_bipush C (9) dX13_valueOf_30 rfl ?_
      refine x_callV C (ct_X13_dough _ _ 185 p1 9 σ at_X13_bakery) mt_X13_dough vr_X13_dough wd1895 cls_X13 at_X13 rfl ⟨rfl, rfl, Nat.le_of_ble_eq_true rfl, Nat.le_of_ble_eq_true rfl⟩ rfl (by decide) dX13_valueOf_32 (kI (fun v7 => ?_))
      refine x_iload_n C 0 dX13_valueOf_35 rfl rfl ?_
      refine x_iload_n C 3 dX13_valueOf_36 rfl rfl ?_
      refine x_isub C dX13_valueOf_37 ?_
      refine x_imul C dX13_valueOf_38 ?_
      refine x_iload_n C 0 dX13_valueOf_39 rfl rfl ?_
      refine x_idiv C dX13_valueOf_40 ?_
      refine x_goto C 45 dX13_valueOf_41 rfl ?_
      refine x_pick [] rfl ?_
      exact hJ4 ((zI (v7 * (v1 - p2))).tdiv (zI v1))
theorem ct_X13_valueOf (l : Launch) (E : xE) (p1 : Int) (p2 : Int) (σ : xS)   : xMet l E yX13_valueOf cX13_valueOf 4 (some .int) { frames := 1, cells := 0, slots := 0, locals := 26 } [.ref (xqa E.2.2 184), iV p1, iV p2] WW WW σ (xrI (m_X13_valueOf p1 p2 σ) σ) := by
  refine xMet.of0 (by decide) (Nat.le_of_ble_eq_true rfl) rfl rfl (fun X hE C => ?_)
  subst hE
  exact xMap (fun v => (some (iV v), σ)) (wk_X13_valueOf C (fun _ => rfl) )
theorem mt_X13_valueOf : xMth yX13_valueOf cX13_valueOf 4 (some .int) 2 := ⟨wd2107, wd164, ⟨by decide, by decide, rfl⟩⟩
theorem vr_X13_valueOf : xVir yX13_valueOf := ⟨wd2106, wd126⟩
def m_X13_surplusValue (n : Nat) (p1 : Int) (σ : xS) : Option (Int × xS) :=
  xbS (m_X13_isNight n σ) fun v2 s1 => if (zI v2) = 0 then some ((-2), s1) else if (m_X13_isIn (zI p1) 0 9999) = 0 then some ((-1), s1) else loopF (fun rec6 (t5 : Int × Int) => xck 4 289 <| if (zI (s1 185 (4 : Int).toNat)) ≤ (zI t5.2) then some (t5.1, s1) else (m_X13_loavesOf n 185 t5.2 s1).bind fun v9 => loopF (fun rec11 (t10 : Int × Int) => (m_X13_bakedLoaves n 185 t5.2 s1).bind fun v13 => if (zI v13) ≤ (zI t10.2) then xlet (t5.2 + 1) fun v15 => rec6 (t10.1, v15) else (m_X13_outAt n 185 t5.2 t10.2 s1).bind fun v16 => (m_X13_valueOf t5.2 ((p1 - (s1 184 6)) - v16) s1).bind fun v17 => xlet (t10.1 + v17) fun v18 => xlet (t10.2 + 1) fun v19 => rec11 (v18, v19)) n (t5.1, v9)) n (0, 0)
set_option maxHeartbeats 4000000 in
set_option maxRecDepth 100000 in
theorem wk_X13_surplusValue {X : xX} {Qf : (Int × xS) → State → Prop} {n : Nat} {p1 : Int} {σ : xS} (C : xCx X cX13_surplusValue "BakeryNightModel" (some .int) { frames := 8, cells := 0, slots := 0, locals := 180 } 5) (hQ : ∀ v τ, Qf (v, τ) = xQf X WW (some (iV v), τ))  : WO X Qf WW σ 0 [(0, .ref (xqa (xXE X).2.2 184)), (1, iV p1)] [] (m_X13_surplusValue n p1 σ) := by
  unfold m_X13_surplusValue
  refine x_aload_n C 0 dX13_surplusValue_0 rfl rfl ?_
  refine x_callV C (ct_X13_isNight _ _ n σ) mt_X13_isNight vr_X13_isNight wd2005 cls_X13 at_X13 rfl ⟨rfl, rfl, Nat.le_of_ble_eq_true rfl, Nat.le_of_ble_eq_true rfl⟩ rfl (by decide) dX13_surplusValue_1 (kS (fun v2 s1 => ?_))
  refine x_if_ne C 10 rfl dX13_surplusValue_4 rfl (fun c3 => x_on c3 ?_) (fun c3 => x_op c3 ?_)
  · refine x_aload_n C 0 dX13_surplusValue_10 rfl rfl ?_
    refine x_iload_n C 1 dX13_surplusValue_11 rfl rfl ?_
    refine x_i2l C dX13_surplusValue_12 ?_
    refine x_lconst C 0 dX13_surplusValue_13 rfl ?_
    refine x_ldc2 C (9999) wd2103 rfl dX13_surplusValue_14 ?_
    refine x_callV C (ct_X13_isIn _ _ (zI p1) 0 9999 s1) mt_X13_isIn vr_X13_isIn wd1680 cls_X13 at_X13 rfl ⟨rfl, rfl, Nat.le_of_ble_eq_true rfl, Nat.le_of_ble_eq_true rfl⟩ rfl (by decide) dX13_surplusValue_17 (kP ?_)
    refine x_if_ne C 25 (zI_bo (bo_X13_isIn _ _ _)) dX13_surplusValue_20 rfl (fun c4 => x_on c4 ?_) (fun c4 => x_op c4 ?_)
    · refine x_iconst C (0) dX13_surplusValue_25 rfl ?_
      refine x_istore_n (L' := [(2, _), (0, _), (1, _)]) C dX13_surplusValue_26 rfl (by decide) rfl ?_
      refine x_iconst C (0) dX13_surplusValue_27 rfl ?_
      refine x_istore_n (L' := [(3, _), (2, _), (0, _), (1, _)]) C dX13_surplusValue_28 rfl (by decide) rfl ?_
      refine x_pick [2, 3, 1, 0] rfl ?_
      refine x_loop (fun t5 : Int × Int => s1) (fun t5 : Int × Int => [(0, .ref (xqa (xXE X).2.2 184)), (1, iV p1), (2, iV t5.1), (3, iV t5.2)]) (fun rec6 hr7 t5 => ?_) n (0, 0)
      refine x_iload_n C 3 dX13_surplusValue_29 rfl rfl ?_
      refine x_aload_n C 0 dX13_surplusValue_30 rfl rfl ?_
      refine x_get (v := .ref (xqa (xXE X).2.2 185)) C 0 cls_X13 at_X13 (by decide) wd1502 rfl (xV_r (rt_X13_bakery  _) rfl) dX13_surplusValue_31 ?_
      refine x_iconst C (4) dX13_surplusValue_34 rfl ?_
      refine x_iald C at_X13_bakery (zIl _ rfl) dX13_surplusValue_35 (fun _ => ?_)
      refine x_icmp_ge C 102 rfl rfl dX13_surplusValue_36 rfl (fun c8 => x_op c8 ?_) (fun c8 => x_on c8 ?_)
      · refine x_iload_n C 2 dX13_surplusValue_102 rfl rfl ?_
        exact x_iretQ C (hQ _ _) rfl dX13_surplusValue_103
      · refine x_aload_n C 0 dX13_surplusValue_39 rfl rfl ?_
        refine x_aload_n C 0 dX13_surplusValue_40 rfl rfl ?_
        refine x_get (v := .ref (xqa (xXE X).2.2 185)) C 0 cls_X13 at_X13 (by decide) wd1502 rfl (xV_r (rt_X13_bakery  _) rfl) dX13_surplusValue_41 ?_
        refine x_iload_n C 3 dX13_surplusValue_44 rfl rfl ?_
        refine x_callV C (ct_X13_loavesOf _ _ n 185 t5.2 s1 at_X13_bakery) mt_X13_loavesOf vr_X13_loavesOf wd1871 cls_X13 at_X13 rfl ⟨rfl, rfl, Nat.le_of_ble_eq_true rfl, Nat.le_of_ble_eq_true rfl⟩ rfl (by decide) dX13_surplusValue_45 (kI (fun v9 => ?_))
        refine x_istore (L' := [(4, _), (0, _), (1, _), (2, _), (3, _)]) C dX13_surplusValue_48 (by decide) rfl ?_
        refine x_pick [1, 2, 3, 4, 0] rfl ?_
        refine x_loop (fun t10 : Int × Int => s1) (fun t10 : Int × Int => [(0, .ref (xqa (xXE X).2.2 184)), (1, iV p1), (2, iV t10.1), (3, iV t5.2), (4, iV t10.2)]) (fun rec11 hr12 t10 => ?_) n (t5.1, v9)
        refine x_iload C 4 dX13_surplusValue_50 rfl ?_
        refine x_aload_n C 0 dX13_surplusValue_52 rfl rfl ?_
        refine x_aload_n C 0 dX13_surplusValue_53 rfl rfl ?_
        refine x_get (v := .ref (xqa (xXE X).2.2 185)) C 0 cls_X13 at_X13 (by decide) wd1502 rfl (xV_r (rt_X13_bakery  _) rfl) dX13_surplusValue_54 ?_
        refine x_iload_n C 3 dX13_surplusValue_57 rfl rfl ?_
        refine x_callV C (ct_X13_bakedLoaves _ _ n 185 t5.2 s1 at_X13_bakery) mt_X13_bakedLoaves vr_X13_bakedLoaves wd2087 cls_X13 at_X13 rfl ⟨rfl, rfl, Nat.le_of_ble_eq_true rfl, Nat.le_of_ble_eq_true rfl⟩ rfl (Nat.le_of_ble_eq_true rfl) dX13_surplusValue_58 (kI (fun v13 => ?_))
        refine x_icmp_ge C 96 rfl rfl dX13_surplusValue_61 rfl (fun c14 => x_op c14 ?_) (fun c14 => x_on c14 ?_)
        · refine x_inc C 3 (f := _) dX13_surplusValue_96 rfl (by decide) (1) rfl (fun v15 => ?_)
          refine x_reL (L' := [(3, _), (0, _), (1, _), (2, _), (4, _)]) rfl ?_
          refine x_goto C 29 dX13_surplusValue_99 rfl ?_
          refine x_pick [1, 2, 3, 0] rfl ?_
          exact hr7 (t10.1, v15)
        · refine x_iload_n C 2 dX13_surplusValue_64 rfl rfl ?_
          refine x_aload_n C 0 dX13_surplusValue_65 rfl rfl ?_
          refine x_iload_n C 3 dX13_surplusValue_66 rfl rfl ?_
          refine x_iload_n C 1 dX13_surplusValue_67 rfl rfl ?_
          refine x_aload_n C 0 dX13_surplusValue_68 rfl rfl ?_
          refine x_get (v := iV (s1 184 6)) C 6 cls_X13 at_X13 (by decide) wd1508 rfl rfl dX13_surplusValue_69 ?_
          refine x_isub C dX13_surplusValue_72 ?_
          refine x_aload_n C 0 dX13_surplusValue_73 rfl rfl ?_
          refine x_aload_n C 0 dX13_surplusValue_74 rfl rfl ?_
          refine x_get (v := .ref (xqa (xXE X).2.2 185)) C 0 cls_X13 at_X13 (by decide) wd1502 rfl (xV_r (rt_X13_bakery  _) rfl) dX13_surplusValue_75 ?_
          refine x_iload_n C 3 dX13_surplusValue_78 rfl rfl ?_
          refine x_iload C 4 dX13_surplusValue_79 rfl ?_
          refine x_callV C (ct_X13_outAt _ _ n 185 t5.2 t10.2 s1 at_X13_bakery) mt_X13_outAt vr_X13_outAt wd2091 cls_X13 at_X13 rfl ⟨rfl, rfl, Nat.le_of_ble_eq_true rfl, Nat.le_of_ble_eq_true rfl⟩ rfl (Nat.le_of_ble_eq_true rfl) dX13_surplusValue_81 (kI (fun v16 => ?_))
          refine x_isub C dX13_surplusValue_84 ?_
          refine x_callV C (ct_X13_valueOf _ _ t5.2 ((p1 - (s1 184 6)) - v16) s1) mt_X13_valueOf vr_X13_valueOf wd2104 cls_X13 at_X13 rfl ⟨rfl, rfl, Nat.le_of_ble_eq_true rfl, Nat.le_of_ble_eq_true rfl⟩ rfl (Nat.le_of_ble_eq_true rfl) dX13_surplusValue_85 (kI (fun v17 => ?_))
          refine x_iadd C dX13_surplusValue_88 ?_
          refine x_letI (fun v18 => ?_)
          refine x_istore_n (L' := [(2, _), (0, _), (1, _), (3, _), (4, _)]) C dX13_surplusValue_89 rfl (by decide) rfl ?_
          refine x_inc C 4 (f := _) dX13_surplusValue_90 rfl (by decide) (1) rfl (fun v19 => ?_)
          refine x_reL (L' := [(4, _), (2, _), (0, _), (1, _), (3, _)]) rfl ?_
          refine x_goto C 50 dX13_surplusValue_93 rfl ?_
          refine x_pick [2, 3, 1, 4, 0] rfl ?_
          exact hr12 (v18, v19)
    · refine x_iconst C (-1) dX13_surplusValue_23 rfl ?_
      exact x_iretQ C (hQ _ _) rfl dX13_surplusValue_24
  · refine x_bipush C (-2) dX13_surplusValue_7 rfl ?_
    exact x_iretQ C (hQ _ _) rfl dX13_surplusValue_9
theorem ct_X13_surplusValue (l : Launch) (E : xE) (n : Nat) (p1 : Int) (σ : xS)   : xMet l E yX13_surplusValue cX13_surplusValue 5 (some .int) { frames := 8, cells := 0, slots := 0, locals := 180 } [.ref (xqa E.2.2 184), iV p1] WW WW σ (xrS (m_X13_surplusValue n p1 σ)) := by
  refine xMet.of0 (by decide) (Nat.le_of_ble_eq_true rfl) rfl rfl (fun X hE C => ?_)
  subst hE
  exact xMap (fun q => (some (iV q.1), q.2)) (wk_X13_surplusValue C (fun _ _ => rfl) )
theorem mt_X13_surplusValue : xMth yX13_surplusValue cX13_surplusValue 5 (some .int) 1 := ⟨wd2102, wd164, ⟨by decide, by decide, rfl⟩⟩
theorem vr_X13_surplusValue : xVir yX13_surplusValue := ⟨wd2100, wd2101⟩
def m_X13_findsWays (n : Nat) (k1 : Nat) (σ : xS) : Option xS :=
  xck 6 289 <| xlet ((σ k1 (6 : Int).toNat) + 1) fun v1 => loopF (fun rec3 (t2 : Int × xS) => if (zI v1) ≤ (zI t2.1) then loopF (fun rec7 (t6 : Int × xS) => xck 7 289 <| if (zI (t6.2 k1 (7 : Int).toNat)) ≤ (zI t6.1) then loopF (fun rec11 (t10 : Int × xS) => if (zI v1) ≤ (zI t10.1) then some t10.2 else loopF (fun rec15 (t14 : Int × xS) => if (zI v1) ≤ (zI t14.1) then xlet (t10.1 + 1) fun v18 => rec11 (v18, t14.2) else loopF (fun rec20 (t19 : Int × xS) => if (zI v1) ≤ (zI t19.1) then xlet (t14.1 + 1) fun v23 => rec15 (v23, t19.2) else xck (zI ((8 * t14.1) + t19.1)) 64 <| xck (zI ((8 * t14.1) + t10.1)) 64 <| xck (zI ((8 * t10.1) + t19.1)) 64 <| xck (zI ((8 * t14.1) + t19.1)) 64 <| xlet (xput t19.2 205 (zI ((8 * t14.1) + t19.1)).toNat (m_X13_lesser (t19.2 205 (zI ((8 * t14.1) + t19.1)).toNat) ((t19.2 205 (zI ((8 * t14.1) + t10.1)).toNat) + (t19.2 205 (zI ((8 * t10.1) + t19.1)).toNat)))) fun s24 => xlet (t19.1 + 1) fun v25 => rec20 (v25, s24)) n (0, t14.2)) n (0, t10.2)) n (0, t6.2) else (m_X13_street k1 t6.1 3 t6.2).bind fun v26 => xj (fun (q30 : xS) => xlet (t6.1 + 1) fun v31 => rec7 (v31, q30)) fun J28 => if (zI v26) = 1 then J28 t6.2 else (m_X13_street k1 t6.1 0 t6.2).bind fun v33 => (m_X13_street k1 t6.1 1 t6.2).bind fun v34 => xck (zI ((8 * v33) + v34)) 64 <| (m_X13_street k1 t6.1 2 t6.2).bind fun v35 => xck (zI ((8 * v33) + v34)) 64 <| xlet (xput t6.2 205 (zI ((8 * v33) + v34)).toNat (m_X13_lesser (t6.2 205 (zI ((8 * v33) + v34)).toNat) v35)) fun s36 => xck (zI ((8 * v33) + v34)) 64 <| xck (zI ((8 * v34) + v33)) 64 <| xlet (xput s36 205 (zI ((8 * v34) + v33)).toNat (s36 205 (zI ((8 * v33) + v34)).toNat)) fun s37 => J28 s37) n (0, t2.2) else loopF (fun rec39 (t38 : Int × xS) => if (zI v1) ≤ (zI t38.1) then xlet (t2.1 + 1) fun v42 => rec3 (v42, t38.2) else xlet (if (zI t2.1) = (zI t38.1) then 0 else 1000000) fun v43 => xck (zI ((8 * t2.1) + t38.1)) 64 <| xlet (xput t38.2 205 (zI ((8 * t2.1) + t38.1)).toNat v43) fun s44 => xlet (t38.1 + 1) fun v45 => rec39 (v45, s44)) n (0, t2.2)) n (0, σ)
set_option maxHeartbeats 4000000 in
set_option maxRecDepth 100000 in
theorem wk_X13_findsWays {X : xX} {Qf : xS → State → Prop} {n : Nat} {k1 : Nat} {σ : xS} (C : xCx X cX13_findsWays "BakeryNightModel" none { frames := 1, cells := 0, slots := 0, locals := 23 } 6) (hQ : ∀ τ, Qf τ = xQf X WW (none, τ)) (hk1 : xAt WW k1 0 289) : WO X Qf WW σ 0 [(0, .ref (xqa (xXE X).2.2 184)), (1, .ref (xqa (xXE X).2.2 k1))] [] (m_X13_findsWays n k1 σ) := by
  unfold m_X13_findsWays
  refine x_aload_n C 1 dX13_findsWays_0 rfl rfl ?_
  refine x_bipush C (6) dX13_findsWays_1 rfl ?_
  refine x_iald C hk1 (zIl _ rfl) dX13_findsWays_3 (fun _ => ?_)
  refine x_iconst C (1) dX13_findsWays_4 rfl ?_
  refine x_iadd C dX13_findsWays_5 ?_
  refine x_letI (fun v1 => ?_)
  refine x_istore_n (L' := [(2, _), (0, _), (1, _)]) C dX13_findsWays_6 rfl (by decide) rfl ?_
  refine x_iconst C (0) dX13_findsWays_7 rfl ?_
  refine x_istore_n (L' := [(3, _), (2, _), (0, _), (1, _)]) C dX13_findsWays_8 rfl (by decide) rfl ?_
  refine x_pick [2, 3, 1, 0] rfl ?_
  refine x_loop (fun t2 : Int × xS => t2.2) (fun t2 : Int × xS => [(0, .ref (xqa (xXE X).2.2 184)), (1, .ref (xqa (xXE X).2.2 k1)), (2, iV v1), (3, iV t2.1)]) (fun rec3 hr4 t2 => ?_) n (0, σ)
  refine x_iload_n C 3 dX13_findsWays_9 rfl rfl ?_
  refine x_iload_n C 2 dX13_findsWays_10 rfl rfl ?_
  refine x_icmp_ge C 60 rfl rfl dX13_findsWays_11 rfl (fun c5 => x_op c5 ?_) (fun c5 => x_on c5 ?_)
  · refine x_iconst C (0) dX13_findsWays_60 rfl ?_
    refine x_istore_n (L' := [(3, _), (0, _), (1, _), (2, _)]) C dX13_findsWays_61 rfl (by decide) rfl ?_
    refine x_pick [1, 2, 3, 0] rfl ?_
    refine x_loop (fun t6 : Int × xS => t6.2) (fun t6 : Int × xS => [(0, .ref (xqa (xXE X).2.2 184)), (1, .ref (xqa (xXE X).2.2 k1)), (2, iV v1), (3, iV t6.1)]) (fun rec7 hr8 t6 => ?_) n (0, t2.2)
    refine x_iload_n C 3 dX13_findsWays_62 rfl rfl ?_
    refine x_aload_n C 1 dX13_findsWays_63 rfl rfl ?_
    refine x_bipush C (7) dX13_findsWays_64 rfl ?_
    refine x_iald C hk1 (zIl _ rfl) dX13_findsWays_66 (fun _ => ?_)
    refine x_icmp_ge C 171 rfl rfl dX13_findsWays_67 rfl (fun c9 => x_op c9 ?_) (fun c9 => x_on c9 ?_)
    · refine x_iconst C (0) dX13_findsWays_171 rfl ?_
      refine x_istore_n (L' := [(3, _), (0, _), (1, _), (2, _)]) C dX13_findsWays_172 rfl (by decide) rfl ?_
      refine x_pick [1, 3, 0] rfl ?_
      refine x_loop (fun t10 : Int × xS => t10.2) (fun t10 : Int × xS => [(0, .ref (xqa (xXE X).2.2 184)), (2, iV v1), (3, iV t10.1)]) (fun rec11 hr12 t10 => ?_) n (0, t6.2)
      refine x_iload_n C 2 dX13_findsWays_173 rfl rfl ?_
      refine x_iload_n C 1 dX13_findsWays_174 rfl rfl ?_
      refine x_icmp_ge C 269 rfl rfl dX13_findsWays_175 rfl (fun c13 => x_op c13 ?_) (fun c13 => x_on c13 ?_)
      · exact x_vretQ C (hQ _) rfl dX13_findsWays_269
      · refine x_iconst C (0) dX13_findsWays_178 rfl ?_
        refine x_istore (L' := [(4, _), (0, _), (2, _), (3, _)]) C dX13_findsWays_179 (by decide) rfl ?_
        refine x_pick [1, 2, 3, 0] rfl ?_
        refine x_loop (fun t14 : Int × xS => t14.2) (fun t14 : Int × xS => [(0, .ref (xqa (xXE X).2.2 184)), (2, iV v1), (3, iV t10.1), (4, iV t14.1)]) (fun rec15 hr16 t14 => ?_) n (0, t10.2)
        refine x_iload C 3 dX13_findsWays_181 rfl ?_
        refine x_iload_n C 1 dX13_findsWays_183 rfl rfl ?_
        refine x_icmp_ge C 263 rfl rfl dX13_findsWays_184 rfl (fun c17 => x_op c17 ?_) (fun c17 => x_on c17 ?_)
        · refine x_inc C 2 (f := _) dX13_findsWays_263 rfl (by decide) (1) rfl (fun v18 => ?_)
          refine x_reL (L' := [(3, _), (0, _), (2, _), (4, _)]) rfl ?_
          refine x_goto C 173 dX13_findsWays_266 rfl ?_
          refine x_pick [1, 2, 0] rfl ?_
          exact hr12 (v18, t14.2)
        · refine x_iconst C (0) dX13_findsWays_187 rfl ?_
          refine x_istore (L' := [(5, _), (0, _), (2, _), (3, _), (4, _)]) C dX13_findsWays_188 (by decide) rfl ?_
          refine x_pick [1, 2, 3, 4, 0] rfl ?_
          refine x_loop (fun t19 : Int × xS => t19.2) (fun t19 : Int × xS => [(0, .ref (xqa (xXE X).2.2 184)), (2, iV v1), (3, iV t10.1), (4, iV t14.1), (5, iV t19.1)]) (fun rec20 hr21 t19 => ?_) n (0, t14.2)
          refine x_iload C 4 dX13_findsWays_190 rfl ?_
          refine x_iload_n C 1 dX13_findsWays_192 rfl rfl ?_
          refine x_icmp_ge C 257 rfl rfl dX13_findsWays_193 rfl (fun c22 => x_op c22 ?_) (fun c22 => x_on c22 ?_)
          · refine x_inc C 3 (f := _) dX13_findsWays_257 rfl (by decide) (1) rfl (fun v23 => ?_)
            refine x_reL (L' := [(4, _), (0, _), (2, _), (3, _), (5, _)]) rfl ?_
            refine x_goto C 181 dX13_findsWays_260 rfl ?_
            refine x_pick [1, 2, 3, 0] rfl ?_
            exact hr16 (v23, t19.2)
          · refine x_aload_n C 0 dX13_findsWays_196 rfl rfl ?_
            refine x_get (v := .ref (xqa (xXE X).2.2 205)) C 39 cls_X13 at_X13 (by decide) wd1541 rfl (xV_r (rt_X13_way  _) rfl) dX13_findsWays_197 ?_
            refine x_bipush C (8) dX13_findsWays_200 rfl ?_
            refine x_iload C 3 dX13_findsWays_202 rfl ?_
            refine x_imul C dX13_findsWays_204 ?_
            refine x_iload C 4 dX13_findsWays_205 rfl ?_
            refine x_iadd C dX13_findsWays_207 ?_
            refine x_aload_n C 0 dX13_findsWays_208 rfl rfl ?_
            refine x_aload_n C 0 dX13_findsWays_209 rfl rfl ?_
            refine x_get (v := .ref (xqa (xXE X).2.2 205)) C 39 cls_X13 at_X13 (by decide) wd1541 rfl (xV_r (rt_X13_way  _) rfl) dX13_findsWays_210 ?_
            refine x_bipush C (8) dX13_findsWays_213 rfl ?_
            refine x_iload C 3 dX13_findsWays_215 rfl ?_
            refine x_imul C dX13_findsWays_217 ?_
            refine x_iload C 4 dX13_findsWays_218 rfl ?_
            refine x_iadd C dX13_findsWays_220 ?_
            refine x_iald C at_X13_way rfl dX13_findsWays_221 (fun _ => ?_)
            refine x_aload_n C 0 dX13_findsWays_222 rfl rfl ?_
            refine x_get (v := .ref (xqa (xXE X).2.2 205)) C 39 cls_X13 at_X13 (by decide) wd1541 rfl (xV_r (rt_X13_way  _) rfl) dX13_findsWays_223 ?_
            refine x_bipush C (8) dX13_findsWays_226 rfl ?_
            refine x_iload C 3 dX13_findsWays_228 rfl ?_
            refine x_imul C dX13_findsWays_230 ?_
            refine x_iload_n C 2 dX13_findsWays_231 rfl rfl ?_
            refine x_iadd C dX13_findsWays_232 ?_
            refine x_iald C at_X13_way rfl dX13_findsWays_233 (fun _ => ?_)
            refine x_aload_n C 0 dX13_findsWays_234 rfl rfl ?_
            refine x_get (v := .ref (xqa (xXE X).2.2 205)) C 39 cls_X13 at_X13 (by decide) wd1541 rfl (xV_r (rt_X13_way  _) rfl) dX13_findsWays_235 ?_
            refine x_bipush C (8) dX13_findsWays_238 rfl ?_
            refine x_iload_n C 2 dX13_findsWays_240 rfl rfl ?_
            refine x_imul C dX13_findsWays_241 ?_
            refine x_iload C 4 dX13_findsWays_242 rfl ?_
            refine x_iadd C dX13_findsWays_244 ?_
            refine x_iald C at_X13_way rfl dX13_findsWays_245 (fun _ => ?_)
            refine x_iadd C dX13_findsWays_246 ?_
            refine x_callV C (ct_X13_lesser _ _ (t19.2 205 (zI ((8 * t14.1) + t19.1)).toNat) ((t19.2 205 (zI ((8 * t14.1) + t10.1)).toNat) + (t19.2 205 (zI ((8 * t10.1) + t19.1)).toNat)) t19.2) mt_X13_lesser vr_X13_lesser wd1933 cls_X13 at_X13 rfl ⟨rfl, rfl, Nat.le_of_ble_eq_true rfl, Nat.le_of_ble_eq_true rfl⟩ rfl (Nat.le_of_ble_eq_true rfl) dX13_findsWays_247 (kP ?_)
            refine x_iast C at_X13_way rfl dX13_findsWays_250 (fun _ => ?_)
            refine x_letS (fun s24 => ?_)
            refine x_inc C 4 (f := _) dX13_findsWays_251 rfl (by decide) (1) rfl (fun v25 => ?_)
            refine x_reL (L' := [(5, _), (0, _), (2, _), (3, _), (4, _)]) rfl ?_
            refine x_goto C 190 dX13_findsWays_254 rfl ?_
            refine x_pick [1, 2, 3, 4, 0] rfl ?_
            exact hr21 (v25, s24)
    · refine x_aload_n C 0 dX13_findsWays_70 rfl rfl ?_
      refine x_aload_n C 1 dX13_findsWays_71 rfl rfl ?_
      refine x_iload_n C 3 dX13_findsWays_72 rfl rfl ?_
      refine x_iconst C (3) dX13_findsWays_73 rfl ?_
      refine x_callV C (ct_X13_street _ _ k1 t6.1 3 t6.2 hk1) mt_X13_street vr_X13_street wd2120 cls_X13 at_X13 rfl ⟨rfl, rfl, Nat.le_of_ble_eq_true rfl, Nat.le_of_ble_eq_true rfl⟩ rfl (by decide) dX13_findsWays_74 (kI (fun v26 => ?_))
      refine x_iconst C (1) dX13_findsWays_77 rfl ?_
      refine x_join (fun J => ∀ q30 : xS, WO X Qf WW q30 165 [(0, .ref (xqa (xXE X).2.2 184)), (1, .ref (xqa (xXE X).2.2 k1)), (2, iV v1), (3, iV t6.1)] [] (J q30)) ?_ ?_
      · intro q30
        refine x_inc C 3 (f := _) dX13_findsWays_165 rfl (by decide) (1) rfl (fun v31 => ?_)
        refine x_reL (L' := [(3, _), (0, _), (1, _), (2, _)]) rfl ?_
        refine x_goto C 62 dX13_findsWays_168 rfl ?_
        refine x_pick [1, 2, 3, 0] rfl ?_
        exact hr8 (v31, q30)
      · intro J28 hJ29
        refine x_icmp_ne C 84 rfl (zIl _ rfl) dX13_findsWays_78 rfl (fun c32 => x_on c32 ?_) (fun c32 => x_op c32 ?_)
        · refine x_aload_n C 0 dX13_findsWays_84 rfl rfl ?_
          refine x_aload_n C 1 dX13_findsWays_85 rfl rfl ?_
          refine x_iload_n C 3 dX13_findsWays_86 rfl rfl ?_
          refine x_iconst C (0) dX13_findsWays_87 rfl ?_
          refine x_callV C (ct_X13_street _ _ k1 t6.1 0 t6.2 hk1) mt_X13_street vr_X13_street wd2120 cls_X13 at_X13 rfl ⟨rfl, rfl, Nat.le_of_ble_eq_true rfl, Nat.le_of_ble_eq_true rfl⟩ rfl (by decide) dX13_findsWays_88 (kI (fun v33 => ?_))
          refine x_istore (L' := [(4, _), (0, _), (1, _), (2, _), (3, _)]) C dX13_findsWays_91 (by decide) rfl ?_
          refine x_aload_n C 1 dX13_findsWays_93 rfl rfl ?_
          refine x_aload_n C 2 dX13_findsWays_94 rfl rfl ?_
          refine x_iload_n C 4 dX13_findsWays_95 rfl rfl ?_
          refine x_iconst C (1) dX13_findsWays_96 rfl ?_
          refine x_callV C (ct_X13_street _ _ k1 t6.1 1 t6.2 hk1) mt_X13_street vr_X13_street wd2120 cls_X13 at_X13 rfl ⟨rfl, rfl, Nat.le_of_ble_eq_true rfl, Nat.le_of_ble_eq_true rfl⟩ rfl (by decide) dX13_findsWays_97 (kI (fun v34 => ?_))
          refine x_istore (L' := [(5, _), (4, _), (0, _), (1, _), (2, _), (3, _)]) C dX13_findsWays_100 (by decide) rfl ?_
          refine x_aload_n C 2 dX13_findsWays_102 rfl rfl ?_
          refine x_get (v := .ref (xqa (xXE X).2.2 205)) C 39 cls_X13 at_X13 (by decide) wd1541 rfl (xV_r (rt_X13_way  _) rfl) dX13_findsWays_103 ?_
          refine x_bipush C (8) dX13_findsWays_106 rfl ?_
          refine x_iload C 1 dX13_findsWays_108 rfl ?_
          refine x_imul C dX13_findsWays_110 ?_
          refine x_iload C 0 dX13_findsWays_111 rfl ?_
          refine x_iadd C dX13_findsWays_113 ?_
          refine x_aload_n C 2 dX13_findsWays_114 rfl rfl ?_
          refine x_aload_n C 2 dX13_findsWays_115 rfl rfl ?_
          refine x_get (v := .ref (xqa (xXE X).2.2 205)) C 39 cls_X13 at_X13 (by decide) wd1541 rfl (xV_r (rt_X13_way  _) rfl) dX13_findsWays_116 ?_
          refine x_bipush C (8) dX13_findsWays_119 rfl ?_
          refine x_iload C 1 dX13_findsWays_121 rfl ?_
          refine x_imul C dX13_findsWays_123 ?_
          refine x_iload C 0 dX13_findsWays_124 rfl ?_
          refine x_iadd C dX13_findsWays_126 ?_
          refine x_iald C at_X13_way rfl dX13_findsWays_127 (fun _ => ?_)
          refine x_aload_n C 2 dX13_findsWays_128 rfl rfl ?_
          refine x_aload_n C 3 dX13_findsWays_129 rfl rfl ?_
          refine x_iload_n C 5 dX13_findsWays_130 rfl rfl ?_
          refine x_iconst C (2) dX13_findsWays_131 rfl ?_
          refine x_callV C (ct_X13_street _ _ k1 t6.1 2 t6.2 hk1) mt_X13_street vr_X13_street wd2120 cls_X13 at_X13 rfl ⟨rfl, rfl, Nat.le_of_ble_eq_true rfl, Nat.le_of_ble_eq_true rfl⟩ rfl (Nat.le_of_ble_eq_true rfl) dX13_findsWays_132 (kI (fun v35 => ?_))
          refine x_callV C (ct_X13_lesser _ _ (t6.2 205 (zI ((8 * v33) + v34)).toNat) v35 t6.2) mt_X13_lesser vr_X13_lesser wd1933 cls_X13 at_X13 rfl ⟨rfl, rfl, Nat.le_of_ble_eq_true rfl, Nat.le_of_ble_eq_true rfl⟩ rfl (Nat.le_of_ble_eq_true rfl) dX13_findsWays_135 (kP ?_)
          refine x_iast C at_X13_way rfl dX13_findsWays_138 (fun _ => ?_)
          refine x_letS (fun s36 => ?_)
          refine x_aload_n C 2 dX13_findsWays_139 rfl rfl ?_
          refine x_get (v := .ref (xqa (xXE X).2.2 205)) C 39 cls_X13 at_X13 (by decide) wd1541 rfl (xV_r (rt_X13_way  _) rfl) dX13_findsWays_140 ?_
          refine x_bipush C (8) dX13_findsWays_143 rfl ?_
          refine x_iload C 0 dX13_findsWays_145 rfl ?_
          refine x_imul C dX13_findsWays_147 ?_
          refine x_iload C 1 dX13_findsWays_148 rfl ?_
          refine x_iadd C dX13_findsWays_150 ?_
          refine x_aload_n C 2 dX13_findsWays_151 rfl rfl ?_
          refine x_get (v := .ref (xqa (xXE X).2.2 205)) C 39 cls_X13 at_X13 (by decide) wd1541 rfl (xV_r (rt_X13_way  _) rfl) dX13_findsWays_152 ?_
          refine x_bipush C (8) dX13_findsWays_155 rfl ?_
          refine x_iload C 1 dX13_findsWays_157 rfl ?_
          refine x_imul C dX13_findsWays_159 ?_
          refine x_iload C 0 dX13_findsWays_160 rfl ?_
          refine x_iadd C dX13_findsWays_162 ?_
          refine x_iald C at_X13_way rfl dX13_findsWays_163 (fun _ => ?_)
          refine x_iast C at_X13_way rfl dX13_findsWays_164 (fun _ => ?_)
          refine x_letS (fun s37 => ?_)
          refine x_pick [2, 3, 4, 5] rfl ?_
          exact hJ29 s37
        · refine x_goto C 165 dX13_findsWays_81 rfl ?_
          refine x_pick [0, 1, 2, 3] rfl ?_
          exact hJ29 t6.2
  · refine x_iconst C (0) dX13_findsWays_14 rfl ?_
    refine x_istore (L' := [(4, _), (0, _), (1, _), (2, _), (3, _)]) C dX13_findsWays_15 (by decide) rfl ?_
    refine x_pick [1, 2, 3, 4, 0] rfl ?_
    refine x_loop (fun t38 : Int × xS => t38.2) (fun t38 : Int × xS => [(0, .ref (xqa (xXE X).2.2 184)), (1, .ref (xqa (xXE X).2.2 k1)), (2, iV v1), (3, iV t2.1), (4, iV t38.1)]) (fun rec39 hr40 t38 => ?_) n (0, t2.2)
    refine x_iload C 4 dX13_findsWays_17 rfl ?_
    refine x_iload_n C 2 dX13_findsWays_19 rfl rfl ?_
    refine x_icmp_ge C 54 rfl rfl dX13_findsWays_20 rfl (fun c41 => x_op c41 ?_) (fun c41 => x_on c41 ?_)
    · refine x_inc C 3 (f := _) dX13_findsWays_54 rfl (by decide) (1) rfl (fun v42 => ?_)
      refine x_reL (L' := [(3, _), (0, _), (1, _), (2, _), (4, _)]) rfl ?_
      refine x_goto C 9 dX13_findsWays_57 rfl ?_
      refine x_pick [1, 2, 3, 0] rfl ?_
      exact hr4 (v42, t38.2)
    · refine x_aload_n C 0 dX13_findsWays_23 rfl rfl ?_
      refine x_get (v := .ref (xqa (xXE X).2.2 205)) C 39 cls_X13 at_X13 (by decide) wd1541 rfl (xV_r (rt_X13_way  _) rfl) dX13_findsWays_24 ?_
      refine x_bipush C (8) dX13_findsWays_27 rfl ?_
      refine x_iload_n C 3 dX13_findsWays_29 rfl rfl ?_
      refine x_imul C dX13_findsWays_30 ?_
      refine x_iload C 4 dX13_findsWays_31 rfl ?_
      refine x_iadd C dX13_findsWays_33 ?_
      refine x_iload_n C 3 dX13_findsWays_34 rfl rfl ?_
      refine x_iload C 4 dX13_findsWays_35 rfl ?_
      refine x_tree 47 [iV ((8 * t2.1) + t38.1), .ref (xqa (xXE X).2.2 205)] (fun v43 => ?_) (fun hJ46 => ?_)
      · refine x_iast C at_X13_way rfl dX13_findsWays_47 (fun _ => ?_)
        refine x_letS (fun s44 => ?_)
        refine x_inc C 4 (f := _) dX13_findsWays_48 rfl (by decide) (1) rfl (fun v45 => ?_)
        refine x_reL (L' := [(4, _), (0, _), (1, _), (2, _), (3, _)]) rfl ?_
        refine x_goto C 17 dX13_findsWays_51 rfl ?_
        refine x_pick [1, 2, 3, 4, 0] rfl ?_
        exact hr40 (v45, s44)
      · refine x_icmp_ne C 44 rfl rfl dX13_findsWays_37 rfl (fun c47 => ?_) (fun c47 => ?_)
        · refine x_ldcw C (1000000) wd1932 rfl dX13_findsWays_44 ?_
          exact hJ46 _ (by rw [if_neg c47])
        · refine x_iconst C (0) dX13_findsWays_40 rfl ?_
          refine x_goto C 47 dX13_findsWays_41 rfl ?_
          exact hJ46 _ (by rw [if_pos c47])
theorem ct_X13_findsWays (l : Launch) (E : xE) (n : Nat) (k1 : Nat) (σ : xS) (hk1 : xAt WW k1 0 289)  : xMet l E yX13_findsWays cX13_findsWays 6 none { frames := 1, cells := 0, slots := 0, locals := 23 } [.ref (xqa E.2.2 184), .ref (xqa E.2.2 k1)] WW WW σ (xrV (m_X13_findsWays n k1 σ)) := by
  refine xMet.of0 (by decide) (Nat.le_of_ble_eq_true rfl) rfl rfl (fun X hE C => ?_)
  subst hE
  exact xMap (fun q => (none, q)) (wk_X13_findsWays C (fun _ => rfl) hk1)
theorem mt_X13_findsWays : xMth yX13_findsWays cX13_findsWays 6 none 1 := ⟨wd2119, wd164, ⟨by decide, by decide, rfl⟩⟩
theorem vr_X13_findsWays : xVir yX13_findsWays := ⟨wd2118, wd128⟩
def m_X13_distance (n : Nat) (p1 : Int) (p2 : Int) (σ : xS) : Option (Int × xS) :=
  xlet (xput σ 184 7 0) fun s1 => xj (fun (q6 : Unit) => some ((-1), s1)) fun J4 => xj (fun (q9 : Unit) => xj (fun (q13 : Unit) => (m_X13_findsWays n 185 s1).bind fun s14 => xck (zI (((8 * (p1 + 1)) + p2) + 1)) 64 <| xlet (s14 205 (zI (((8 * (p1 + 1)) + p2) + 1)).toNat) fun v15 => xlet (if (zI v15) < 1000000 then v15 else (-1)) fun v16 => some (v16, s14)) fun J11 => if (zI p2) = (-1) then J11 () else (m_X13_isShop p2 s1).bind fun v20 => if (zI v20) = 0 then J4 () else J11 ()) fun J7 => if (zI p1) = (-1) then J7 () else (m_X13_isShop p1 s1).bind fun v23 => if (zI v23) = 0 then J4 () else J7 ()
set_option maxHeartbeats 4000000 in
set_option maxRecDepth 100000 in
theorem wk_X13_distance {X : xX} {Qf : (Int × xS) → State → Prop} {n : Nat} {p1 : Int} {p2 : Int} {σ : xS} (C : xCx X cX13_distance "BakeryNightModel" (some .int) { frames := 2, cells := 0, slots := 0, locals := 48 } 4) (hQ : ∀ v τ, Qf (v, τ) = xQf X WW (some (iV v), τ))  : WO X Qf WW σ 0 [(0, .ref (xqa (xXE X).2.2 184)), (1, iV p1), (2, iV p2)] [] (m_X13_distance n p1 p2 σ) := by
  unfold m_X13_distance
  refine x_aload_n C 0 dX13_distance_0 rfl rfl ?_
  refine x_iconst C (0) dX13_distance_1 rfl ?_
  refine x_put C 7 0 cls_X13 at_X13 (by decide) wd1509 rfl rfl rfl rfl (xV_pI rfl) dX13_distance_2 ?_
  refine x_letS (fun s1 => ?_)
  refine x_iload_n C 1 dX13_distance_5 rfl rfl ?_
  refine x_iconst C (-1) dX13_distance_6 rfl ?_
  refine x_join (fun J => ∀ q6 : Unit, WO X Qf WW s1 31 [] [] (J q6)) ?_ ?_
  · intro q6
    refine x_iconst C (-1) dX13_distance_31 rfl ?_
    exact x_iretQ C (hQ _ _) rfl dX13_distance_32
  · intro J4 hJ5
    refine x_join (fun J => ∀ q9 : Unit, WO X Qf WW s1 18 [(0, .ref (xqa (xXE X).2.2 184)), (1, iV p1), (2, iV p2)] [] (J q9)) ?_ ?_
    · intro q9
      refine x_iload_n C 2 dX13_distance_18 rfl rfl ?_
      refine x_iconst C (-1) dX13_distance_19 rfl ?_
      refine x_join (fun J => ∀ q13 : Unit, WO X Qf WW s1 33 [(0, .ref (xqa (xXE X).2.2 184)), (1, iV p1), (2, iV p2)] [] (J q13)) ?_ ?_
      · intro q13
        refine x_aload_n C 0 dX13_distance_33 rfl rfl ?_
        refine x_aload_n C 0 dX13_distance_34 rfl rfl ?_
        refine x_get (v := .ref (xqa (xXE X).2.2 185)) C 0 cls_X13 at_X13 (by decide) wd1502 rfl (xV_r (rt_X13_bakery  _) rfl) dX13_distance_35 ?_
        refine x_callV C (ct_X13_findsWays _ _ n 185 s1 at_X13_bakery) mt_X13_findsWays vr_X13_findsWays wd2116 cls_X13 at_X13 rfl ⟨rfl, rfl, Nat.le_of_ble_eq_true rfl, Nat.le_of_ble_eq_true rfl⟩ rfl (by decide) dX13_distance_38 (kV (fun s14 => ?_))
        refine x_aload_n C 0 dX13_distance_41 rfl rfl ?_
        refine x_get (v := .ref (xqa (xXE X).2.2 205)) C 39 cls_X13 at_X13 (by decide) wd1541 rfl (xV_r (rt_X13_way  _) rfl) dX13_distance_42 ?_
        refine x_bipush C (8) dX13_distance_45 rfl ?_
        refine x_iload_n C 1 dX13_distance_47 rfl rfl ?_
        refine x_iconst C (1) dX13_distance_48 rfl ?_
        refine x_iadd C dX13_distance_49 ?_
        refine x_imul C dX13_distance_50 ?_
        refine x_iload_n C 2 dX13_distance_51 rfl rfl ?_
        refine x_iadd C dX13_distance_52 ?_
        refine x_iconst C (1) dX13_distance_53 rfl ?_
        refine x_iadd C dX13_distance_54 ?_
        refine x_iald C at_X13_way rfl dX13_distance_55 (fun _ => ?_)
        refine x_letI (fun v15 => ?_)
        refine x_istore_n (L' := [(3, _), (0, _), (1, _), (2, _)]) C dX13_distance_56 rfl (by decide) rfl ?_
        refine x_iload_n C 0 dX13_distance_57 rfl rfl ?_
        refine x_ldcw C (1000000) wd1932 rfl dX13_distance_58 ?_
        refine x_tree 69 [] (fun v16 => ?_) (fun hJ17 => ?_)
        · exact x_iretQ C (hQ _ _) rfl dX13_distance_69
        · refine x_icmp_lt C 68 rfl (zIl _ rfl) dX13_distance_61 rfl (fun c18 => ?_) (fun c18 => ?_)
          · refine x_iload_n C 0 dX13_distance_68 rfl rfl ?_
            exact hJ17 _ (by rw [if_pos c18])
          · refine x_iconst C (-1) dX13_distance_64 rfl ?_
            refine x_goto C 69 dX13_distance_65 rfl ?_
            exact hJ17 _ (by rw [if_neg c18])
      · intro J11 hJ12
        refine x_icmp_eq C 33 rfl (zIl _ rfl) dX13_distance_20 rfl (fun c19 => x_op c19 ?_) (fun c19 => x_on c19 ?_)
        · refine x_pick [0, 1, 2] rfl ?_
          exact hJ12 ()
        · refine x_aload_n C 0 dX13_distance_23 rfl rfl ?_
          refine x_iload_n C 2 dX13_distance_24 rfl rfl ?_
          refine x_callV C (ct_X13_isShop _ _ p2 s1) mt_X13_isShop vr_X13_isShop wd2112 cls_X13 at_X13 rfl ⟨rfl, rfl, Nat.le_of_ble_eq_true rfl, Nat.le_of_ble_eq_true rfl⟩ rfl (by decide) dX13_distance_25 (kI (fun v20 => ?_))
          refine x_if_ne C 33 rfl dX13_distance_28 rfl (fun c21 => x_on c21 ?_) (fun c21 => x_op c21 ?_)
          · refine x_pick [0, 1, 2] rfl ?_
            exact hJ12 ()
          · refine x_pick [] rfl ?_
            exact hJ5 ()
    · intro J7 hJ8
      refine x_icmp_eq C 18 rfl (zIl _ rfl) dX13_distance_7 rfl (fun c22 => x_op c22 ?_) (fun c22 => x_on c22 ?_)
      · refine x_pick [0, 1, 2] rfl ?_
        exact hJ8 ()
      · refine x_aload_n C 0 dX13_distance_10 rfl rfl ?_
        refine x_iload_n C 1 dX13_distance_11 rfl rfl ?_
        refine x_callV C (ct_X13_isShop _ _ p1 s1) mt_X13_isShop vr_X13_isShop wd2112 cls_X13 at_X13 rfl ⟨rfl, rfl, Nat.le_of_ble_eq_true rfl, Nat.le_of_ble_eq_true rfl⟩ rfl (by decide) dX13_distance_12 (kI (fun v23 => ?_))
        refine x_if_eq C 31 rfl dX13_distance_15 rfl (fun c24 => x_op c24 ?_) (fun c24 => x_on c24 ?_)
        · refine x_pick [] rfl ?_
          exact hJ5 ()
        · refine x_pick [0, 1, 2] rfl ?_
          exact hJ8 ()
theorem ct_X13_distance (l : Launch) (E : xE) (n : Nat) (p1 : Int) (p2 : Int) (σ : xS)   : xMet l E yX13_distance cX13_distance 4 (some .int) { frames := 2, cells := 0, slots := 0, locals := 48 } [.ref (xqa E.2.2 184), iV p1, iV p2] WW WW σ (xrS (m_X13_distance n p1 p2 σ)) := by
  refine xMet.of0 (by decide) (Nat.le_of_ble_eq_true rfl) rfl rfl (fun X hE C => ?_)
  subst hE
  exact xMap (fun q => (some (iV q.1), q.2)) (wk_X13_distance C (fun _ _ => rfl) )
theorem mt_X13_distance : xMth yX13_distance cX13_distance 4 (some .int) 2 := ⟨wd2111, wd164, ⟨by decide, by decide, rfl⟩⟩
theorem vr_X13_distance : xVir yX13_distance := ⟨wd2109, wd2110⟩
def m_X13_findsRoutes (n : Nat) (k1 : Nat) (σ : xS) : Option xS :=
  (m_X13_findsWays n k1 σ).bind fun s1 => loopF (fun rec3 (t2 : Int × xS) => xck 6 289 <| if (zI (zshl 1 (t2.2 k1 (6 : Int).toNat))) ≤ (zI t2.1) then some t2.2 else loopF (fun rec7 (t6 : Int × xS) => xck 6 289 <| if (zI (t6.2 k1 (6 : Int).toNat)) < (zI t6.1) then xlet (t2.1 + 1) fun v10 => rec3 (v10, t6.2) else xlet (if (zI t2.1) = 0 then 0 else 1000000) fun v11 => loopF (fun rec13 (t12 : Int × Int) => xck 6 289 <| if (zI (t6.2 k1 (6 : Int).toNat)) ≤ (zI t12.2) then xck (zI ((8 * t2.1) + t6.1)) 1024 <| xlet (xput t6.2 206 (zI ((8 * t2.1) + t6.1)).toNat (m_X13_lesser t12.1 1000000)) fun s16 => xlet (t6.1 + 1) fun v17 => rec7 (v17, s16) else xj (fun (q20 : Int) => xlet (t12.2 + 1) fun v21 => rec13 (q20, v21)) fun J18 => if (m_X13_has t2.1 t12.2) = 0 then J18 t12.1 else xck (zI (((8 * t6.1) + t12.2) + 1)) 64 <| xck (zI (((8 * (t2.1 - (zshl 1 t12.2))) + t12.2) + 1)) 1024 <| xlet (m_X13_lesser t12.1 ((t6.2 205 (zI (((8 * t6.1) + t12.2) + 1)).toNat) + (t6.2 206 (zI (((8 * (t2.1 - (zshl 1 t12.2))) + t12.2) + 1)).toNat))) fun v23 => J18 v23) n (v11, 0)) n (0, t2.2)) n (0, s1)
set_option maxHeartbeats 4000000 in
set_option maxRecDepth 100000 in
theorem wk_X13_findsRoutes {X : xX} {Qf : xS → State → Prop} {n : Nat} {k1 : Nat} {σ : xS} (C : xCx X cX13_findsRoutes "BakeryNightModel" none { frames := 2, cells := 0, slots := 0, locals := 48 } 6) (hQ : ∀ τ, Qf τ = xQf X WW (none, τ)) (hk1 : xAt WW k1 0 289) : WO X Qf WW σ 0 [(0, .ref (xqa (xXE X).2.2 184)), (1, .ref (xqa (xXE X).2.2 k1))] [] (m_X13_findsRoutes n k1 σ) := by
  unfold m_X13_findsRoutes
  refine x_aload_n C 0 dX13_findsRoutes_0 rfl rfl ?_
  refine x_aload_n C 1 dX13_findsRoutes_1 rfl rfl ?_
  refine x_callV C (ct_X13_findsWays _ _ n k1 σ hk1) mt_X13_findsWays vr_X13_findsWays wd2116 cls_X13 at_X13 rfl ⟨rfl, rfl, Nat.le_of_ble_eq_true rfl, Nat.le_of_ble_eq_true rfl⟩ rfl (by decide) dX13_findsRoutes_2 (kV (fun s1 => ?_))
  refine x_iconst C (0) dX13_findsRoutes_5 rfl ?_
  refine x_istore_n (L' := [(2, _), (0, _), (1, _)]) C dX13_findsRoutes_6 rfl (by decide) rfl ?_
  refine x_pick [1, 2, 0] rfl ?_
  refine x_loop (fun t2 : Int × xS => t2.2) (fun t2 : Int × xS => [(0, .ref (xqa (xXE X).2.2 184)), (1, .ref (xqa (xXE X).2.2 k1)), (2, iV t2.1)]) (fun rec3 hr4 t2 => ?_) n (0, s1)
  refine x_iload_n C 2 dX13_findsRoutes_7 rfl rfl ?_
  refine x_iconst C (1) dX13_findsRoutes_8 rfl ?_
  refine x_aload_n C 1 dX13_findsRoutes_9 rfl rfl ?_
  refine x_bipush C (6) dX13_findsRoutes_10 rfl ?_
  refine x_iald C hk1 (zIl _ rfl) dX13_findsRoutes_12 (fun _ => ?_)
  refine x_ishl C dX13_findsRoutes_13 ?_
  refine x_icmp_ge C 142 rfl rfl dX13_findsRoutes_14 rfl (fun c5 => x_op c5 ?_) (fun c5 => x_on c5 ?_)
  · exact x_vretQ C (hQ _) rfl dX13_findsRoutes_142
  · refine x_iconst C (0) dX13_findsRoutes_17 rfl ?_
    refine x_istore_n (L' := [(3, _), (0, _), (1, _), (2, _)]) C dX13_findsRoutes_18 rfl (by decide) rfl ?_
    refine x_pick [1, 2, 3, 0] rfl ?_
    refine x_loop (fun t6 : Int × xS => t6.2) (fun t6 : Int × xS => [(0, .ref (xqa (xXE X).2.2 184)), (1, .ref (xqa (xXE X).2.2 k1)), (2, iV t2.1), (3, iV t6.1)]) (fun rec7 hr8 t6 => ?_) n (0, t2.2)
    refine x_iload_n C 3 dX13_findsRoutes_19 rfl rfl ?_
    refine x_aload_n C 1 dX13_findsRoutes_20 rfl rfl ?_
    refine x_bipush C (6) dX13_findsRoutes_21 rfl ?_
    refine x_iald C hk1 (zIl _ rfl) dX13_findsRoutes_23 (fun _ => ?_)
    refine x_icmp_gt C 136 rfl rfl dX13_findsRoutes_24 rfl (fun c9 => x_op c9 ?_) (fun c9 => x_on c9 ?_)
    · refine x_inc C 2 (f := _) dX13_findsRoutes_136 rfl (by decide) (1) rfl (fun v10 => ?_)
      refine x_reL (L' := [(2, _), (0, _), (1, _), (3, _)]) rfl ?_
      refine x_goto C 7 dX13_findsRoutes_139 rfl ?_
      refine x_pick [1, 2, 0] rfl ?_
      exact hr4 (v10, t6.2)
    · refine x_iload_n C 2 dX13_findsRoutes_27 rfl rfl ?_
      refine x_tree 38 [] (fun v11 => ?_) (fun hJ24 => ?_)
      · refine x_istore (L' := [(4, _), (0, _), (1, _), (2, _), (3, _)]) C dX13_findsRoutes_38 (by decide) rfl ?_
        refine x_iconst C (0) dX13_findsRoutes_40 rfl ?_
        refine x_istore (L' := [(5, _), (4, _), (0, _), (1, _), (2, _), (3, _)]) C dX13_findsRoutes_41 (by decide) rfl ?_
        refine x_pick [2, 3, 4, 5, 1, 0] rfl ?_
        refine x_loop (fun t12 : Int × Int => t6.2) (fun t12 : Int × Int => [(0, .ref (xqa (xXE X).2.2 184)), (1, .ref (xqa (xXE X).2.2 k1)), (2, iV t2.1), (3, iV t6.1), (4, iV t12.1), (5, iV t12.2)]) (fun rec13 hr14 t12 => ?_) n (v11, 0)
        refine x_iload C 5 dX13_findsRoutes_43 rfl ?_
        refine x_aload_n C 1 dX13_findsRoutes_45 rfl rfl ?_
        refine x_bipush C (6) dX13_findsRoutes_46 rfl ?_
        refine x_iald C hk1 (zIl _ rfl) dX13_findsRoutes_48 (fun _ => ?_)
        refine x_icmp_ge C 110 rfl rfl dX13_findsRoutes_49 rfl (fun c15 => x_op c15 ?_) (fun c15 => x_on c15 ?_)
        · refine x_aload_n C 0 dX13_findsRoutes_110 rfl rfl ?_
          refine x_get (v := .ref (xqa (xXE X).2.2 206)) C 40 cls_X13 at_X13 (by decide) wd1542 rfl (xV_r (rt_X13_least  _) rfl) dX13_findsRoutes_111 ?_
          refine x_bipush C (8) dX13_findsRoutes_114 rfl ?_
          refine x_iload_n C 2 dX13_findsRoutes_116 rfl rfl ?_
          refine x_imul C dX13_findsRoutes_117 ?_
          refine x_iload_n C 3 dX13_findsRoutes_118 rfl rfl ?_
          refine x_iadd C dX13_findsRoutes_119 ?_
          refine x_aload_n C 0 dX13_findsRoutes_120 rfl rfl ?_
          refine x_iload C 4 dX13_findsRoutes_121 rfl ?_
          refine x_ldcw C (1000000) wd1932 rfl dX13_findsRoutes_123 ?_
          refine x_callV C (ct_X13_lesser _ _ t12.1 1000000 t6.2) mt_X13_lesser vr_X13_lesser wd1933 cls_X13 at_X13 rfl ⟨rfl, rfl, Nat.le_of_ble_eq_true rfl, Nat.le_of_ble_eq_true rfl⟩ rfl (Nat.le_of_ble_eq_true rfl) dX13_findsRoutes_126 (kP ?_)
          refine x_iast C at_X13_least rfl dX13_findsRoutes_129 (fun _ => ?_)
          refine x_letS (fun s16 => ?_)
          refine x_inc C 3 (f := _) dX13_findsRoutes_130 rfl (by decide) (1) rfl (fun v17 => ?_)
          refine x_reL (L' := [(3, _), (0, _), (1, _), (2, _), (4, _), (5, _)]) rfl ?_
          refine x_goto C 19 dX13_findsRoutes_133 rfl ?_
          refine x_pick [1, 2, 3, 0] rfl ?_
          exact hr8 (v17, s16)
        · refine x_aload_n C 0 dX13_findsRoutes_52 rfl rfl ?_
          refine x_iload_n C 2 dX13_findsRoutes_53 rfl rfl ?_
          refine x_iload C 5 dX13_findsRoutes_54 rfl ?_
          refine x_callV C (ct_X13_has _ _ t2.1 t12.2 t6.2) mt_X13_has vr_X13_has wd1746 cls_X13 at_X13 rfl ⟨rfl, rfl, Nat.le_of_ble_eq_true rfl, Nat.le_of_ble_eq_true rfl⟩ rfl (by decide) dX13_findsRoutes_56 (kP ?_)
          refine x_join (fun J => ∀ q20 : Int, WO X Qf WW t6.2 104 [(0, .ref (xqa (xXE X).2.2 184)), (1, .ref (xqa (xXE X).2.2 k1)), (2, iV t2.1), (3, iV t6.1), (4, iV q20), (5, iV t12.2)] [] (J q20)) ?_ ?_
          · intro q20
            refine x_inc C 5 (f := _) dX13_findsRoutes_104 rfl (by decide) (1) rfl (fun v21 => ?_)
            refine x_reL (L' := [(5, _), (0, _), (1, _), (2, _), (3, _), (4, _)]) rfl ?_
            refine x_goto C 43 dX13_findsRoutes_107 rfl ?_
            refine x_pick [1, 2, 3, 4, 5, 0] rfl ?_
            exact hr14 (q20, v21)
          · intro J18 hJ19
            refine x_if_eq C 104 (zI_bo (bo_X13_has _ _)) dX13_findsRoutes_59 rfl (fun c22 => x_op c22 ?_) (fun c22 => x_on c22 ?_)
            · refine x_pick [0, 1, 2, 3, 4, 5] rfl ?_
              exact hJ19 t12.1
            · refine x_aload_n C 0 dX13_findsRoutes_62 rfl rfl ?_
              refine x_iload C 4 dX13_findsRoutes_63 rfl ?_
              refine x_aload_n C 0 dX13_findsRoutes_65 rfl rfl ?_
              refine x_get (v := .ref (xqa (xXE X).2.2 205)) C 39 cls_X13 at_X13 (by decide) wd1541 rfl (xV_r (rt_X13_way  _) rfl) dX13_findsRoutes_66 ?_
              refine x_bipush C (8) dX13_findsRoutes_69 rfl ?_
              refine x_iload_n C 3 dX13_findsRoutes_71 rfl rfl ?_
              refine x_imul C dX13_findsRoutes_72 ?_
              refine x_iload C 5 dX13_findsRoutes_73 rfl ?_
              refine x_iadd C dX13_findsRoutes_75 ?_
              refine x_iconst C (1) dX13_findsRoutes_76 rfl ?_
              refine x_iadd C dX13_findsRoutes_77 ?_
              refine x_iald C at_X13_way rfl dX13_findsRoutes_78 (fun _ => ?_)
              refine x_aload_n C 0 dX13_findsRoutes_79 rfl rfl ?_
              refine x_get (v := .ref (xqa (xXE X).2.2 206)) C 40 cls_X13 at_X13 (by decide) wd1542 rfl (xV_r (rt_X13_least  _) rfl) dX13_findsRoutes_80 ?_
              refine x_bipush C (8) dX13_findsRoutes_83 rfl ?_
              refine x_iload_n C 2 dX13_findsRoutes_85 rfl rfl ?_
              refine x_iconst C (1) dX13_findsRoutes_86 rfl ?_
              refine x_iload C 5 dX13_findsRoutes_87 rfl ?_
              refine x_ishl C dX13_findsRoutes_89 ?_
              refine x_isub C dX13_findsRoutes_90 ?_
              refine x_imul C dX13_findsRoutes_91 ?_
              refine x_iload C 5 dX13_findsRoutes_92 rfl ?_
              refine x_iadd C dX13_findsRoutes_94 ?_
              refine x_iconst C (1) dX13_findsRoutes_95 rfl ?_
              refine x_iadd C dX13_findsRoutes_96 ?_
              refine x_iald C at_X13_least rfl dX13_findsRoutes_97 (fun _ => ?_)
              refine x_iadd C dX13_findsRoutes_98 ?_
              refine x_callV C (ct_X13_lesser _ _ t12.1 ((t6.2 205 (zI (((8 * t6.1) + t12.2) + 1)).toNat) + (t6.2 206 (zI (((8 * (t2.1 - (zshl 1 t12.2))) + t12.2) + 1)).toNat)) t6.2) mt_X13_lesser vr_X13_lesser wd1933 cls_X13 at_X13 rfl ⟨rfl, rfl, Nat.le_of_ble_eq_true rfl, Nat.le_of_ble_eq_true rfl⟩ rfl (by decide) dX13_findsRoutes_99 (kP ?_)
              refine x_letI (fun v23 => ?_)
              refine x_istore (L' := [(4, _), (0, _), (1, _), (2, _), (3, _), (5, _)]) C dX13_findsRoutes_102 (by decide) rfl ?_
              refine x_pick [1, 2, 3, 4, 0, 5] rfl ?_
              exact hJ19 v23
      · refine x_if_ne C 35 rfl dX13_findsRoutes_28 rfl (fun c25 => ?_) (fun c25 => ?_)
        · refine x_ldcw C (1000000) wd1932 rfl dX13_findsRoutes_35 ?_
          exact hJ24 _ (by rw [if_neg c25])
        · refine x_iconst C (0) dX13_findsRoutes_31 rfl ?_
          refine x_goto C 38 dX13_findsRoutes_32 rfl ?_
          exact hJ24 _ (by rw [if_pos c25])
theorem ct_X13_findsRoutes (l : Launch) (E : xE) (n : Nat) (k1 : Nat) (σ : xS) (hk1 : xAt WW k1 0 289)  : xMet l E yX13_findsRoutes cX13_findsRoutes 6 none { frames := 2, cells := 0, slots := 0, locals := 48 } [.ref (xqa E.2.2 184), .ref (xqa E.2.2 k1)] WW WW σ (xrV (m_X13_findsRoutes n k1 σ)) := by
  refine xMet.of0 (by decide) (Nat.le_of_ble_eq_true rfl) rfl rfl (fun X hE C => ?_)
  subst hE
  exact xMap (fun q => (none, q)) (wk_X13_findsRoutes C (fun _ => rfl) hk1)
theorem mt_X13_findsRoutes : xMth yX13_findsRoutes cX13_findsRoutes 6 none 1 := ⟨wd2131, wd164, ⟨by decide, by decide, rfl⟩⟩
theorem vr_X13_findsRoutes : xVir yX13_findsRoutes := ⟨wd2130, wd130⟩
def m_X13_routes (n : Nat) (k1 : Nat) (p2 : Int) (σ : xS) : Option xS :=
  xlet (xput σ 184 42 0) fun s1 => loopF (fun rec3 (t2 : Int × Int × xS) => if (zI t2.2.1) = 0 then some t2.2.2 else loopF (fun rec7 (t6 : Int) => xj (fun (q11 : Unit) => xlet (t6 + 1) fun v12 => rec7 v12) fun J9 => if (m_X13_has t2.2.1 t6) = 0 then J9 () else xck (zI (((8 * t2.1) + t6) + 1)) 64 <| xck (zI (((8 * (t2.2.1 - (zshl 1 t6))) + t6) + 1)) 1024 <| xck (zI ((8 * t2.2.1) + t2.1)) 1024 <| if (zI ((t2.2.2 205 (zI (((8 * t2.1) + t6) + 1)).toNat) + (t2.2.2 206 (zI (((8 * (t2.2.1 - (zshl 1 t6))) + t6) + 1)).toNat))) = (zI (t2.2.2 206 (zI ((8 * t2.2.1) + t2.1)).toNat)) then xck (zI (t2.2.2 184 42)) 7 <| xlet (xput t2.2.2 207 (zI (t2.2.2 184 42)).toNat t6) fun s15 => xlet (xput s15 184 42 ((s15 184 42) + 1)) fun s16 => xlet (t2.2.1 - (zshl 1 t6)) fun v17 => xlet (t6 + 1) fun v18 => rec3 (v18, v17, s16) else J9 ()) n 0) n (0, p2, s1)
set_option maxHeartbeats 4000000 in
set_option maxRecDepth 100000 in
theorem wk_X13_routes {X : xX} {Qf : xS → State → Prop} {n : Nat} {k1 : Nat} {p2 : Int} {σ : xS} (C : xCx X cX13_routes "BakeryNightModel" none { frames := 1, cells := 0, slots := 0, locals := 22 } 6) (hQ : ∀ τ, Qf τ = xQf X WW (none, τ)) (hk1 : xAt WW k1 0 289) : WO X Qf WW σ 0 [(0, .ref (xqa (xXE X).2.2 184)), (1, .ref (xqa (xXE X).2.2 k1)), (2, iV p2)] [] (m_X13_routes n k1 p2 σ) := by
  unfold m_X13_routes
  refine x_aload_n C 0 dX13_routes_0 rfl rfl ?_
  refine x_iconst C (0) dX13_routes_1 rfl ?_
  refine x_put C 42 0 cls_X13 at_X13 (by decide) wd1544 rfl rfl rfl rfl (xV_pI rfl) dX13_routes_2 ?_
  refine x_letS (fun s1 => ?_)
  refine x_iconst C (0) dX13_routes_5 rfl ?_
  refine x_istore_n (L' := [(3, _), (0, _), (1, _), (2, _)]) C dX13_routes_6 rfl (by decide) rfl ?_
  refine x_iload_n C 3 dX13_routes_7 rfl rfl ?_
  refine x_istore (L' := [(4, _), (3, _), (0, _), (1, _), (2, _)]) C dX13_routes_8 (by decide) rfl ?_
  refine x_pick [2, 1, 0] rfl ?_
  refine x_loop (fun t2 : Int × Int × xS => t2.2.2) (fun t2 : Int × Int × xS => [(0, .ref (xqa (xXE X).2.2 184)), (3, iV t2.1), (4, iV t2.2.1)]) (fun rec3 hr4 t2 => ?_) n (0, p2, s1)
  refine x_iload C 2 dX13_routes_10 rfl ?_
  refine x_if_eq C 126 rfl dX13_routes_12 rfl (fun c5 => x_op c5 ?_) (fun c5 => x_on c5 ?_)
  · exact x_vretQ C (hQ _) rfl dX13_routes_126
  · refine x_iconst C (0) dX13_routes_15 rfl ?_
    refine x_istore (L' := [(5, _), (0, _), (3, _), (4, _)]) C dX13_routes_16 (by decide) rfl ?_
    refine x_pick [1, 2, 3, 0] rfl ?_
    refine x_loop (fun t6 : Int => t2.2.2) (fun t6 : Int => [(0, .ref (xqa (xXE X).2.2 184)), (3, iV t2.1), (4, iV t2.2.1), (5, iV t6)]) (fun rec7 hr8 t6 => ?_) n 0
    refine x_aload_n C 0 dX13_routes_18 rfl rfl ?_
    refine x_iload C 2 dX13_routes_19 rfl ?_
    refine x_iload C 3 dX13_routes_21 rfl ?_
    refine x_callV C (ct_X13_has _ _ t2.2.1 t6 t2.2.2) mt_X13_has vr_X13_has wd1746 cls_X13 at_X13 rfl ⟨rfl, rfl, Nat.le_of_ble_eq_true rfl, Nat.le_of_ble_eq_true rfl⟩ rfl (by decide) dX13_routes_23 (kP ?_)
    refine x_join (fun J => ∀ q11 : Unit, WO X Qf WW t2.2.2 79 [(0, .ref (xqa (xXE X).2.2 184)), (3, iV t2.1), (4, iV t2.2.1), (5, iV t6)] [] (J q11)) ?_ ?_
    · intro q11
      refine x_iload C 3 dX13_routes_79 rfl ?_
      refine x_iconst C (1) dX13_routes_81 rfl ?_
      refine x_iadd C dX13_routes_82 ?_
      refine x_letI (fun v12 => ?_)
      refine x_istore (L' := [(5, _), (0, _), (3, _), (4, _)]) C dX13_routes_83 (by decide) rfl ?_
      refine x_goto C 18 dX13_routes_85 rfl ?_
      refine x_pick [1, 2, 3, 0] rfl ?_
      exact hr8 v12
    · intro J9 hJ10
      refine x_if_eq C 79 (zI_bo (bo_X13_has _ _)) dX13_routes_26 rfl (fun c13 => x_op c13 ?_) (fun c13 => x_on c13 ?_)
      · refine x_pick [0, 1, 2, 3] rfl ?_
        exact hJ10 ()
      · refine x_aload_n C 0 dX13_routes_29 rfl rfl ?_
        refine x_get (v := .ref (xqa (xXE X).2.2 205)) C 39 cls_X13 at_X13 (by decide) wd1541 rfl (xV_r (rt_X13_way  _) rfl) dX13_routes_30 ?_
        refine x_bipush C (8) dX13_routes_33 rfl ?_
        refine x_iload_n C 1 dX13_routes_35 rfl rfl ?_
        refine x_imul C dX13_routes_36 ?_
        refine x_iload C 3 dX13_routes_37 rfl ?_
        refine x_iadd C dX13_routes_39 ?_
        refine x_iconst C (1) dX13_routes_40 rfl ?_
        refine x_iadd C dX13_routes_41 ?_
        refine x_iald C at_X13_way rfl dX13_routes_42 (fun _ => ?_)
        refine x_aload_n C 0 dX13_routes_43 rfl rfl ?_
        refine x_get (v := .ref (xqa (xXE X).2.2 206)) C 40 cls_X13 at_X13 (by decide) wd1542 rfl (xV_r (rt_X13_least  _) rfl) dX13_routes_44 ?_
        refine x_bipush C (8) dX13_routes_47 rfl ?_
        refine x_iload C 2 dX13_routes_49 rfl ?_
        refine x_iconst C (1) dX13_routes_51 rfl ?_
        refine x_iload C 3 dX13_routes_52 rfl ?_
        refine x_ishl C dX13_routes_54 ?_
        refine x_isub C dX13_routes_55 ?_
        refine x_imul C dX13_routes_56 ?_
        refine x_iload C 3 dX13_routes_57 rfl ?_
        refine x_iadd C dX13_routes_59 ?_
        refine x_iconst C (1) dX13_routes_60 rfl ?_
        refine x_iadd C dX13_routes_61 ?_
        refine x_iald C at_X13_least rfl dX13_routes_62 (fun _ => ?_)
        refine x_iadd C dX13_routes_63 ?_
        refine x_aload_n C 0 dX13_routes_64 rfl rfl ?_
        refine x_get (v := .ref (xqa (xXE X).2.2 206)) C 40 cls_X13 at_X13 (by decide) wd1542 rfl (xV_r (rt_X13_least  _) rfl) dX13_routes_65 ?_
        refine x_bipush C (8) dX13_routes_68 rfl ?_
        refine x_iload C 2 dX13_routes_70 rfl ?_
        refine x_imul C dX13_routes_72 ?_
        refine x_iload_n C 1 dX13_routes_73 rfl rfl ?_
        refine x_iadd C dX13_routes_74 ?_
        refine x_iald C at_X13_least rfl dX13_routes_75 (fun _ => ?_)
        refine x_icmp_eq C 88 rfl rfl dX13_routes_76 rfl (fun c14 => x_op c14 ?_) (fun c14 => x_on c14 ?_)
        · refine x_aload_n C 0 dX13_routes_88 rfl rfl ?_
          refine x_get (v := .ref (xqa (xXE X).2.2 207)) C 41 cls_X13 at_X13 (by decide) wd1543 rfl (xV_r (rt_X13_stops  _) rfl) dX13_routes_89 ?_
          refine x_aload_n C 0 dX13_routes_92 rfl rfl ?_
          refine x_get (v := iV (t2.2.2 184 42)) C 42 cls_X13 at_X13 (by decide) wd1544 rfl rfl dX13_routes_93 ?_
          refine x_iload C 3 dX13_routes_96 rfl ?_
          refine x_iast C at_X13_stops rfl dX13_routes_98 (fun _ => ?_)
          refine x_letS (fun s15 => ?_)
          refine x_aload_n C 0 dX13_routes_99 rfl rfl ?_
          refine x_aload_n C 0 dX13_routes_100 rfl rfl ?_
          refine x_get (v := iV (s15 184 42)) C 42 cls_X13 at_X13 (by decide) wd1544 rfl rfl dX13_routes_101 ?_
          refine x_iconst C (1) dX13_routes_104 rfl ?_
          refine x_iadd C dX13_routes_105 ?_
          refine x_put C 42 ((s15 184 42) + 1) cls_X13 at_X13 (by decide) wd1544 rfl rfl rfl rfl (xV_pI rfl) dX13_routes_106 ?_
          refine x_letS (fun s16 => ?_)
          refine x_iload C 2 dX13_routes_109 rfl ?_
          refine x_iconst C (1) dX13_routes_111 rfl ?_
          refine x_iload C 3 dX13_routes_112 rfl ?_
          refine x_ishl C dX13_routes_114 ?_
          refine x_isub C dX13_routes_115 ?_
          refine x_letI (fun v17 => ?_)
          refine x_istore (L' := [(4, _), (0, _), (3, _), (5, _)]) C dX13_routes_116 (by decide) rfl ?_
          refine x_iload C 3 dX13_routes_118 rfl ?_
          refine x_iconst C (1) dX13_routes_120 rfl ?_
          refine x_iadd C dX13_routes_121 ?_
          refine x_letI (fun v18 => ?_)
          refine x_istore_n (L' := [(3, _), (4, _), (0, _), (5, _)]) C dX13_routes_122 rfl (by decide) rfl ?_
          refine x_goto C 10 dX13_routes_123 rfl ?_
          refine x_pick [2, 0, 1] rfl ?_
          exact hr4 (v18, v17, s16)
        · refine x_pick [0, 1, 2, 3] rfl ?_
          exact hJ10 ()
theorem ct_X13_routes (l : Launch) (E : xE) (n : Nat) (k1 : Nat) (p2 : Int) (σ : xS) (hk1 : xAt WW k1 0 289)  : xMet l E yX13_routes cX13_routes 6 none { frames := 1, cells := 0, slots := 0, locals := 22 } [.ref (xqa E.2.2 184), .ref (xqa E.2.2 k1), iV p2] WW WW σ (xrV (m_X13_routes n k1 p2 σ)) := by
  refine xMet.of0 (by decide) (Nat.le_of_ble_eq_true rfl) rfl rfl (fun X hE C => ?_)
  subst hE
  exact xMap (fun q => (none, q)) (wk_X13_routes C (fun _ => rfl) hk1)
theorem mt_X13_routes : xMth yX13_routes cX13_routes 6 none 2 := ⟨wd2140, wd164, ⟨by decide, by decide, rfl⟩⟩
theorem vr_X13_routes : xVir yX13_routes := ⟨wd2139, wd131⟩
def m_X13_routeMinutes (n : Nat) (p1 : Int) (σ : xS) : Option (Int × xS) :=
  xlet (xput σ 184 7 0) fun s1 => xck 6 289 <| if (m_X13_isIn (zI p1) 0 ((zlshl 1 (s1 185 (6 : Int).toNat)) - 1)) = 0 then some ((-1), s1) else (m_X13_findsRoutes n 185 s1).bind fun s3 => xck (zI (8 * p1)) 1024 <| xj (fun (q6 : Int) => some (q6, s3)) fun J4 => if (zI (s3 206 (zI (8 * p1)).toNat)) < 1000000 then xck (zI (8 * p1)) 1024 <| J4 (s3 206 (zI (8 * p1)).toNat) else J4 (-1)
set_option maxHeartbeats 4000000 in
set_option maxRecDepth 100000 in
theorem wk_X13_routeMinutes {X : xX} {Qf : (Int × xS) → State → Prop} {n : Nat} {p1 : Int} {σ : xS} (C : xCx X cX13_routeMinutes "BakeryNightModel" (some .int) { frames := 3, cells := 0, slots := 0, locals := 73 } 2) (hQ : ∀ v τ, Qf (v, τ) = xQf X WW (some (iV v), τ))  : WO X Qf WW σ 0 [(0, .ref (xqa (xXE X).2.2 184)), (1, iV p1)] [] (m_X13_routeMinutes n p1 σ) := by
  unfold m_X13_routeMinutes
  refine x_aload_n C 0 dX13_routeMinutes_0 rfl rfl ?_
  refine x_iconst C (0) dX13_routeMinutes_1 rfl ?_
  refine x_put C 7 0 cls_X13 at_X13 (by decide) wd1509 rfl rfl rfl rfl (xV_pI rfl) dX13_routeMinutes_2 ?_
  refine x_letS (fun s1 => ?_)
  refine x_aload_n C 0 dX13_routeMinutes_5 rfl rfl ?_
  refine x_iload_n C 1 dX13_routeMinutes_6 rfl rfl ?_
  refine x_i2l C dX13_routeMinutes_7 ?_
  refine x_lconst C 0 dX13_routeMinutes_8 rfl ?_
  refine x_lconst C 1 dX13_routeMinutes_9 rfl ?_
  refine x_aload_n C 0 dX13_routeMinutes_10 rfl rfl ?_
  refine x_get (v := .ref (xqa (xXE X).2.2 185)) C 0 cls_X13 at_X13 (by decide) wd1502 rfl (xV_r (rt_X13_bakery  _) rfl) dX13_routeMinutes_11 ?_
  refine x_bipush C (6) dX13_routeMinutes_14 rfl ?_
  refine x_iald C at_X13_bakery (zIl _ rfl) dX13_routeMinutes_16 (fun _ => ?_)
  refine x_lshl C dX13_routeMinutes_17 ?_
  refine x_lconst C 1 dX13_routeMinutes_18 rfl ?_
  refine x_lsub C dX13_routeMinutes_19 ?_
  refine x_callV C (ct_X13_isIn _ _ (zI p1) 0 ((zlshl 1 (s1 185 (6 : Int).toNat)) - 1) s1) mt_X13_isIn vr_X13_isIn wd1680 cls_X13 at_X13 rfl ⟨rfl, rfl, Nat.le_of_ble_eq_true rfl, Nat.le_of_ble_eq_true rfl⟩ rfl (by decide) dX13_routeMinutes_20 (kP ?_)
  refine x_if_ne C 28 (zI_bo (bo_X13_isIn _ _ _)) dX13_routeMinutes_23 rfl (fun c2 => x_on c2 ?_) (fun c2 => x_op c2 ?_)
  · refine x_aload_n C 0 dX13_routeMinutes_28 rfl rfl ?_
    refine x_aload_n C 0 dX13_routeMinutes_29 rfl rfl ?_
    refine x_get (v := .ref (xqa (xXE X).2.2 185)) C 0 cls_X13 at_X13 (by decide) wd1502 rfl (xV_r (rt_X13_bakery  _) rfl) dX13_routeMinutes_30 ?_
    refine x_callV C (ct_X13_findsRoutes _ _ n 185 s1 at_X13_bakery) mt_X13_findsRoutes vr_X13_findsRoutes wd2128 cls_X13 at_X13 rfl ⟨rfl, rfl, Nat.le_of_ble_eq_true rfl, Nat.le_of_ble_eq_true rfl⟩ rfl (by decide) dX13_routeMinutes_33 (kV (fun s3 => ?_))
    refine x_aload_n C 0 dX13_routeMinutes_36 rfl rfl ?_
    refine x_get (v := .ref (xqa (xXE X).2.2 206)) C 40 cls_X13 at_X13 (by decide) wd1542 rfl (xV_r (rt_X13_least  _) rfl) dX13_routeMinutes_37 ?_
    refine x_bipush C (8) dX13_routeMinutes_40 rfl ?_
    refine x_iload_n C 1 dX13_routeMinutes_42 rfl rfl ?_
    refine x_imul C dX13_routeMinutes_43 ?_
    refine x_iald C at_X13_least rfl dX13_routeMinutes_44 (fun _ => ?_)
    refine x_ldcw C (1000000) wd1932 rfl dX13_routeMinutes_45 ?_
    refine x_join (fun J => ∀ q6 : Int, WO X Qf WW s3 64 [] [iV q6] (J q6)) ?_ ?_
    · intro q6
      exact x_iretQ C (hQ _ _) rfl dX13_routeMinutes_64
    · intro J4 hJ5
      refine x_icmp_lt C 55 rfl (zIl _ rfl) dX13_routeMinutes_48 rfl (fun c7 => x_op c7 ?_) (fun c7 => x_on c7 ?_)
      · refine x_aload_n C 0 dX13_routeMinutes_55 rfl rfl ?_
        refine x_get (v := .ref (xqa (xXE X).2.2 206)) C 40 cls_X13 at_X13 (by decide) wd1542 rfl (xV_r (rt_X13_least  _) rfl) dX13_routeMinutes_56 ?_
        refine x_bipush C (8) dX13_routeMinutes_59 rfl ?_
        refine x_iload_n C 1 dX13_routeMinutes_61 rfl rfl ?_
        refine x_imul C dX13_routeMinutes_62 ?_
        refine x_iald C at_X13_least rfl dX13_routeMinutes_63 (fun _ => ?_)
        refine x_pick [] rfl ?_
        exact hJ5 (s3 206 (zI (8 * p1)).toNat)
      · refine x_iconst C (-1) dX13_routeMinutes_51 rfl ?_
        refine x_goto C 64 dX13_routeMinutes_52 rfl ?_
        refine x_pick [] rfl ?_
        exact hJ5 (-1)
  · refine x_iconst C (-1) dX13_routeMinutes_26 rfl ?_
    exact x_iretQ C (hQ _ _) rfl dX13_routeMinutes_27
theorem ct_X13_routeMinutes (l : Launch) (E : xE) (n : Nat) (p1 : Int) (σ : xS)   : xMet l E yX13_routeMinutes cX13_routeMinutes 2 (some .int) { frames := 3, cells := 0, slots := 0, locals := 73 } [.ref (xqa E.2.2 184), iV p1] WW WW σ (xrS (m_X13_routeMinutes n p1 σ)) := by
  refine xMet.of0 (by decide) (Nat.le_of_ble_eq_true rfl) rfl rfl (fun X hE C => ?_)
  subst hE
  exact xMap (fun q => (some (iV q.1), q.2)) (wk_X13_routeMinutes C (fun _ _ => rfl) )
theorem mt_X13_routeMinutes : xMth yX13_routeMinutes cX13_routeMinutes 2 (some .int) 1 := ⟨wd2127, wd164, ⟨by decide, by decide, rfl⟩⟩
theorem vr_X13_routeMinutes : xVir yX13_routeMinutes := ⟨wd2125, wd2126⟩
