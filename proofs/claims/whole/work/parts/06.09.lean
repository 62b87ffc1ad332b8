def m_X13_latest (n : Nat) (k1 : Nat) (σ : xS) : Option (Int × xS) :=
  (m_X13_findsShops n k1 σ).bind fun s1 => (m_X13_findsRoutes n k1 s1).bind fun s2 => xj (fun (q6 : Unit) => some ((-1), s2)) fun J4 => if (zI (s2 184 47)) = 0 then xj (fun (q10 : Unit) => (m_X13_firstAssignment n k1 s2).bind fun s11 => xlet (-1) fun v12 => loopF (fun rec14 (t13 : Int × Int × xS) => if (zI t13.2.1) = 0 then xlet (if 0 ≤ (zI t13.1) then t13.1 else (-1)) fun v17 => some (v17, t13.2.2) else xbS (m_X13_drives n k1 t13.2.2) fun v21 s20 => xj (fun (q25 : Int) => xbS (m_X13_nextAssignment n k1 s20) fun v27 s26 => rec14 (q25, v27, s26)) fun J23 => if (zI v21) = (-1) then J23 t13.1 else (m_X13_slack n s20).bind fun v29 => xlet (m_X13_greater t13.1 v29) fun v30 => J23 v30) n (v12, 1, s11)) fun J8 => if (zI (s2 184 46)) = 0 then J8 () else xck 8 289 <| if (zI (s2 k1 (8 : Int).toNat)) = 0 then J4 () else J8 () else J4 ()
set_option maxHeartbeats 4000000 in
set_option maxRecDepth 100000 in
theorem wk_X13_latest {X : xX} {Qf : (Int × xS) → State → Prop} {n : Nat} {k1 : Nat} {σ : xS} (C : xCx X cX13_latest "BakeryNightModel" (some .int) { frames := 6, cells := 0, slots := 0, locals := 137 } 4) (hQ : ∀ v τ, Qf (v, τ) = xQf X WW (some (iV v), τ)) (hk1 : xAt WW k1 0 289) : WO X Qf WW σ 0 [(0, .ref (xqa (xXE X).2.2 184)), (1, .ref (xqa (xXE X).2.2 k1))] [] (m_X13_latest n k1 σ) := by
  unfold m_X13_latest
  refine x_aload_n C 0 dX13_latest_0 rfl rfl ?_
  refine x_aload_n C 1 dX13_latest_1 rfl rfl ?_
  refine x_callV C (ct_X13_findsShops _ _ n k1 σ hk1) mt_X13_findsShops vr_X13_findsShops wd2153 cls_X13 at_X13 rfl ⟨rfl, rfl, Nat.le_of_ble_eq_true rfl, Nat.le_of_ble_eq_true rfl⟩ rfl (by decide) dX13_latest_2 (kV (fun s1 => ?_))
  refine x_aload_n C 0 dX13_latest_5 rfl rfl ?_
  refine x_aload_n C 1 dX13_latest_6 rfl rfl ?_
  refine x_callV C (ct_X13_findsRoutes _ _ n k1 s1 hk1) mt_X13_findsRoutes vr_X13_findsRoutes wd2128 cls_X13 at_X13 rfl ⟨rfl, rfl, Nat.le_of_ble_eq_true rfl, Nat.le_of_ble_eq_true rfl⟩ rfl (by decide) dX13_latest_7 (kV (fun s2 => ?_))
  refine x_aload_n C 0 dX13_latest_10 rfl rfl ?_
  refine x_get (v := iV (s2 184 47)) C 47 cls_X13 at_X13 (by decide) wd1549 rfl rfl dX13_latest_11 ?_
  refine x_join (fun J => ∀ q6 : Unit, WO X Qf WW s2 31 [] [] (J q6)) ?_ ?_
  · intro q6
    refine x_iconst C (-1) dX13_latest_31 rfl ?_
    exact x_iretQ C (hQ _ _) rfl dX13_latest_32
  · intro J4 hJ5
    refine x_if_ne C 31 rfl dX13_latest_14 rfl (fun c7 => x_on c7 ?_) (fun c7 => x_op c7 ?_)
    · refine x_pick [] rfl ?_
      exact hJ5 ()
    · refine x_aload_n C 0 dX13_latest_17 rfl rfl ?_
      refine x_get (v := iV (s2 184 46)) C 46 cls_X13 at_X13 (by decide) wd1548 rfl rfl dX13_latest_18 ?_
      refine x_join (fun J => ∀ q10 : Unit, WO X Qf WW s2 33 [(0, .ref (xqa (xXE X).2.2 184)), (1, .ref (xqa (xXE X).2.2 k1))] [] (J q10)) ?_ ?_
      · intro q10
        refine x_aload_n C 0 dX13_latest_33 rfl rfl ?_
        refine x_aload_n C 1 dX13_latest_34 rfl rfl ?_
        refine x_callV C (ct_X13_firstAssignment _ _ n k1 s2 hk1) mt_X13_firstAssignment vr_X13_firstAssignment wd2157 cls_X13 at_X13 rfl ⟨rfl, rfl, Nat.le_of_ble_eq_true rfl, Nat.le_of_ble_eq_true rfl⟩ rfl (by decide) dX13_latest_35 (kV (fun s11 => ?_))
        refine x_iconst C (-1) dX13_latest_38 rfl ?_
        refine x_letI (fun v12 => ?_)
        refine x_istore_n (L' := [(2, _), (0, _), (1, _)]) C dX13_latest_39 rfl (by decide) rfl ?_
        refine x_iconst C (1) dX13_latest_40 rfl ?_
        refine x_istore_n (L' := [(3, _), (2, _), (0, _), (1, _)]) C dX13_latest_41 rfl (by decide) rfl ?_
        refine x_pick [2, 3, 1, 0] rfl ?_
        refine x_loop (fun t13 : Int × Int × xS => t13.2.2) (fun t13 : Int × Int × xS => [(0, .ref (xqa (xXE X).2.2 184)), (1, .ref (xqa (xXE X).2.2 k1)), (2, iV t13.1), (3, iV t13.2.1)]) (fun rec14 hr15 t13 => ?_) n (v12, 1, s11)
        refine x_iload_n C 3 dX13_latest_42 rfl rfl ?_
        refine x_if_eq C 74 rfl dX13_latest_43 rfl (fun c16 => x_op c16 ?_) (fun c16 => x_on c16 ?_)
        · refine x_iload_n C 2 dX13_latest_74 rfl rfl ?_
          refine x_tree 83 [] (fun v17 => ?_) (fun hJ18 => ?_)
          · exact x_iretQ C (hQ _ _) rfl dX13_latest_83
          · refine x_if_ge C 82 rfl dX13_latest_75 rfl (fun c19 => ?_) (fun c19 => ?_)
            · refine x_iload_n C 2 dX13_latest_82 rfl rfl ?_
              exact hJ18 _ (by rw [if_pos c19])
            · refine x_iconst C (-1) dX13_latest_78 rfl ?_
              refine x_goto C 83 dX13_latest_79 rfl ?_
              exact hJ18 _ (by rw [if_neg c19])
        · refine x_aload_n C 0 dX13_latest_46 rfl rfl ?_
          refine x_aload_n C 1 dX13_latest_47 rfl rfl ?_
          refine x_callV C (ct_X13_drives _ _ n k1 t13.2.2 hk1) mt_X13_drives vr_X13_drives wd2161 cls_X13 at_X13 rfl ⟨rfl, rfl, Nat.le_of_ble_eq_true rfl, Nat.le_of_ble_eq_true rfl⟩ rfl (by decide) dX13_latest_48 (kS (fun v21 s20 => ?_))
          refine x_iconst C (-1) dX13_latest_51 rfl ?_
          refine x_join (fun J => ∀ q25 : Int, WO X Qf WW s20 65 [(0, .ref (xqa (xXE X).2.2 184)), (1, .ref (xqa (xXE X).2.2 k1)), (2, iV q25)] [] (J q25)) ?_ ?_
          · intro q25
            refine x_aload_n C 0 dX13_latest_65 rfl rfl ?_
            refine x_aload_n C 1 dX13_latest_66 rfl rfl ?_
            refine x_callV C (ct_X13_nextAssignment _ _ n k1 s20 hk1) mt_X13_nextAssignment vr_X13_nextAssignment wd2181 cls_X13 at_X13 rfl ⟨rfl, rfl, Nat.le_of_ble_eq_true rfl, Nat.le_of_ble_eq_true rfl⟩ rfl (by decide) dX13_latest_67 (kS (fun v27 s26 => ?_))
            refine x_istore_n (L' := [(3, _), (0, _), (1, _), (2, _)]) C dX13_latest_70 rfl (by decide) rfl ?_
            refine x_goto C 42 dX13_latest_71 rfl ?_
            refine x_pick [1, 2, 3, 0] rfl ?_
            exact hr15 (q25, v27, s26)
          · intro J23 hJ24
            refine x_icmp_eq C 65 rfl (zIl _ rfl) dX13_latest_52 rfl (fun c28 => x_op c28 ?_) (fun c28 => x_on c28 ?_)
            · refine x_pick [0, 1, 2] rfl ?_
              exact hJ24 t13.1
            · refine x_aload_n C 0 dX13_latest_55 rfl rfl ?_
              refine x_iload_n C 2 dX13_latest_56 rfl rfl ?_
              refine x_aload_n C 0 dX13_latest_57 rfl rfl ?_
              refine x_callV C (ct_X13_slack _ _ n s20) mt_X13_slack vr_X13_slack wd2221 cls_X13 at_X13 rfl ⟨rfl, rfl, Nat.le_of_ble_eq_true rfl, Nat.le_of_ble_eq_true rfl⟩ rfl (Nat.le_of_ble_eq_true rfl) dX13_latest_58 (kI (fun v29 => ?_))
              refine x_callV C (ct_X13_greater _ _ t13.1 v29 s20) mt_X13_greater vr_X13_greater wd1835 cls_X13 at_X13 rfl ⟨rfl, rfl, Nat.le_of_ble_eq_true rfl, Nat.le_of_ble_eq_true rfl⟩ rfl (by decide) dX13_latest_61 (kP ?_)
              refine x_letI (fun v30 => ?_)
              refine x_istore_n (L' := [(2, _), (0, _), (1, _), (3, _)]) C dX13_latest_64 rfl (by decide) rfl ?_
              refine x_pick [1, 2, 0] rfl ?_
              exact hJ24 v30
      · intro J8 hJ9
        refine x_if_eq C 33 rfl dX13_latest_21 rfl (fun c31 => x_op c31 ?_) (fun c31 => x_on c31 ?_)
        · refine x_pick [0, 1] rfl ?_
          exact hJ9 ()
        · refine x_aload_n C 1 dX13_latest_24 rfl rfl ?_
          refine x_bipush C (8) dX13_latest_25 rfl ?_
          refine x_iald C hk1 (zIl _ rfl) dX13_latest_27 (fun _ => ?_)
          refine x_if_ne C 33 rfl dX13_latest_28 rfl (fun c32 => x_on c32 ?_) (fun c32 => x_op c32 ?_)
          · refine x_pick [0, 1] rfl ?_
            exact hJ9 ()
          · refine x_pick [] rfl ?_
            exact hJ5 ()
theorem ct_X13_latest (l : Launch) (E : xE) (n : Nat) (k1 : Nat) (σ : xS) (hk1 : xAt WW k1 0 289)  : xMet l E yX13_latest cX13_latest 4 (some .int) { frames := 6, cells := 0, slots := 0, locals := 137 } [.ref (xqa E.2.2 184), .ref (xqa E.2.2 k1)] WW WW σ (xrS (m_X13_latest n k1 σ)) := by
  refine xMet.of0 (by decide) (Nat.le_of_ble_eq_true rfl) rfl rfl (fun X hE C => ?_)
  subst hE
  exact xMap (fun q => (some (iV q.1), q.2)) (wk_X13_latest C (fun _ _ => rfl) hk1)
theorem mt_X13_latest : xMth yX13_latest cX13_latest 4 (some .int) 1 := ⟨wd2220, wd164, ⟨by decide, by decide, rfl⟩⟩
theorem vr_X13_latest : xVir yX13_latest := ⟨wd2219, wd145⟩
def m_X13_isMuch (n : Nat) (σ : xS) : Option Int :=
  (m_X13_allBatches n 185 σ).bind fun v1 => xlet (if (zI v1) ≤ 60 then 0 else 1) fun v2 => xbo v2 (some v2)
set_option maxHeartbeats 4000000 in
set_option maxRecDepth 100000 in
theorem wk_X13_isMuch {X : xX} {Qf : Int → State → Prop} {n : Nat} {σ : xS} (C : xCx X cX13_isMuch "BakeryNightModel" (some .boolean) { frames := 5, cells := 0, slots := 0, locals := 114 } 1) (hQ : ∀ v, Qf v = xQf X WW (some (iV v), σ))  : WO X Qf WW σ 0 [(0, .ref (xqa (xXE X).2.2 184))] [] (m_X13_isMuch n σ) := by
  unfold m_X13_isMuch
  refine x_aload_n C 0 dX13_isMuch_0 rfl rfl ?_
  refine x_aload_n C 0 dX13_isMuch_1 rfl rfl ?_
  refine x_get (v := .ref (xqa (xXE X).2.2 185)) C 0 cls_X13 at_X13 (by decide) wd1502 rfl (xV_r (rt_X13_bakery  _) rfl) dX13_isMuch_2 ?_
  refine x_callV C (ct_X13_allBatches _ _ n 185 σ at_X13_bakery) mt_X13_allBatches vr_X13_allBatches wd1887 cls_X13 at_X13 rfl ⟨rfl, rfl, Nat.le_of_ble_eq_true rfl, Nat.le_of_ble_eq_true rfl⟩ rfl (by decide) dX13_isMuch_5 (kI (fun v1 => ?_))
  refine x_bipush C (60) dX13_isMuch_8 rfl ?_
  refine x_tree 18 [] (fun v2 => ?_) (fun hJ3 => ?_)
  · exact x_bo (fun hb => x_zretQ C (hQ _) rfl hb dX13_isMuch_18)
  · refine x_icmp_le C 17 rfl (zIl _ rfl) dX13_isMuch_10 rfl (fun c4 => ?_) (fun c4 => ?_)
    · refine x_iconst C (0) dX13_isMuch_17 rfl ?_
      exact hJ3 _ (by rw [if_pos c4])
    · refine x_iconst C (1) dX13_isMuch_13 rfl ?_
      refine x_goto C 18 dX13_isMuch_14 rfl ?_
      exact hJ3 _ (by rw [if_neg c4])
theorem ct_X13_isMuch (l : Launch) (E : xE) (n : Nat) (σ : xS)   : xMet l E yX13_isMuch cX13_isMuch 1 (some .boolean) { frames := 5, cells := 0, slots := 0, locals := 114 } [.ref (xqa E.2.2 184)] WW WW σ (xrI (m_X13_isMuch n σ) σ) := by
  refine xMet.of0 (by decide) (Nat.le_of_ble_eq_true rfl) rfl rfl (fun X hE C => ?_)
  subst hE
  exact xMap (fun v => (some (iV v), σ)) (wk_X13_isMuch C (fun _ => rfl) )
theorem mt_X13_isMuch : xMth yX13_isMuch cX13_isMuch 1 (some .boolean) 0 := ⟨wd2216, wd164, ⟨by decide, by decide, rfl⟩⟩
theorem vr_X13_isMuch : xVir yX13_isMuch := ⟨wd2215, wd144⟩
def m_X13_latestStart (n : Nat) (σ : xS) : Option (Int × xS) :=
  xlet (xput σ 184 7 0) fun s1 => (m_X13_isMuch n s1).bind fun v2 => if (zI v2) = 0 then (m_X13_simulates n 185 s1).bind fun s4 => xbS (m_X13_latest n 185 s4) fun v6 s5 => some (v6, s5) else some ((-3), s1)
set_option maxHeartbeats 4000000 in
set_option maxRecDepth 100000 in
theorem wk_X13_latestStart {X : xX} {Qf : (Int × xS) → State → Prop} {n : Nat} {σ : xS} (C : xCx X cX13_latestStart "BakeryNightModel" (some .int) { frames := 7, cells := 0, slots := 0, locals := 160 } 1) (hQ : ∀ v τ, Qf (v, τ) = xQf X WW (some (iV v), τ))  : WO X Qf WW σ 0 [(0, .ref (xqa (xXE X).2.2 184))] [] (m_X13_latestStart n σ) := by
  unfold m_X13_latestStart
  refine x_aload_n C 0 dX13_latestStart_0 rfl rfl ?_
  refine x_iconst C (0) dX13_latestStart_1 rfl ?_
  refine x_put C 7 0 cls_X13 at_X13 (by decide) wd1509 rfl rfl rfl rfl (xV_pI rfl) dX13_latestStart_2 ?_
  refine x_letS (fun s1 => ?_)
  refine x_aload_n C 0 dX13_latestStart_5 rfl rfl ?_
  refine x_callV C (ct_X13_isMuch _ _ n s1) mt_X13_isMuch vr_X13_isMuch wd2213 cls_X13 at_X13 rfl ⟨rfl, rfl, Nat.le_of_ble_eq_true rfl, Nat.le_of_ble_eq_true rfl⟩ rfl (by decide) dX13_latestStart_6 (kI (fun v2 => ?_))
  refine x_if_eq C 15 rfl dX13_latestStart_9 rfl (fun c3 => x_op c3 ?_) (fun c3 => x_on c3 ?_)
  · refine x_aload_n C 0 dX13_latestStart_15 rfl rfl ?_
    refine x_aload_n C 0 dX13_latestStart_16 rfl rfl ?_
    refine x_get (v := .ref (xqa (xXE X).2.2 185)) C 0 cls_X13 at_X13 (by decide) wd1502 rfl (xV_r (rt_X13_bakery  _) rfl) dX13_latestStart_17 ?_
    refine x_callV C (ct_X13_simulates _ _ n 185 s1 at_X13_bakery) mt_X13_simulates vr_X13_simulates wd1916 cls_X13 at_X13 rfl ⟨rfl, rfl, Nat.le_of_ble_eq_true rfl, Nat.le_of_ble_eq_true rfl⟩ rfl (by decide) dX13_latestStart_20 (kV (fun s4 => ?_))
    refine x_aload_n C 0 dX13_latestStart_23 rfl rfl ?_
    refine x_aload_n C 0 dX13_latestStart_24 rfl rfl ?_
    refine x_get (v := .ref (xqa (xXE X).2.2 185)) C 0 cls_X13 at_X13 (by decide) wd1502 rfl (xV_r (rt_X13_bakery  _) rfl) dX13_latestStart_25 ?_
    refine x_callV C (ct_X13_latest _ _ n 185 s4 at_X13_bakery) mt_X13_latest vr_X13_latest wd2217 cls_X13 at_X13 rfl ⟨rfl, rfl, Nat.le_of_ble_eq_true rfl, Nat.le_of_ble_eq_true rfl⟩ rfl (by decide) dX13_latestStart_28 (kS (fun v6 s5 => ?_))
    exact x_iretQ C (hQ _ _) rfl dX13_latestStart_31
  · refine x_bipush C (-3) dX13_latestStart_12 rfl ?_
    exact x_iretQ C (hQ _ _) rfl dX13_latestStart_14
theorem ct_X13_latestStart (l : Launch) (E : xE) (n : Nat) (σ : xS)   : xMet l E yX13_latestStart cX13_latestStart 1 (some .int) { frames := 7, cells := 0, slots := 0, locals := 160 } [.ref (xqa E.2.2 184)] WW WW σ (xrS (m_X13_latestStart n σ)) := by
  refine xMet.of0 (by decide) (Nat.le_of_ble_eq_true rfl) rfl rfl (fun X hE C => ?_)
  subst hE
  exact xMap (fun q => (some (iV q.1), q.2)) (wk_X13_latestStart C (fun _ _ => rfl) )
theorem mt_X13_latestStart : xMth yX13_latestStart cX13_latestStart 1 (some .int) 0 := ⟨wd2212, wd164, ⟨by decide, by decide, rfl⟩⟩
theorem vr_X13_latestStart : xVir yX13_latestStart := ⟨wd2210, wd2211⟩
def m_X13_latestStartWith (n : Nat) (p1 : Int) (σ : xS) : Option (Int × xS) :=
  xlet (xput σ 184 7 0) fun s1 => if (m_X13_isIn (zI p1) 0 4) = 0 then some ((-1), s1) else (m_X13_isMuch n s1).bind fun v3 => if (zI v3) = 0 then (m_X13_copies n 185 187 s1).bind fun s5 => xj (fun (q8 : xS) => xj (fun (q11 : xS) => xj (fun (q14 : xS) => loopF (fun rec16 (t15 : Int × xS) => xck 5 289 <| xj (fun (q20 : Unit) => xlet (if (zI p1) = 4 then 1 else 0) fun v21 => xbo v21 <| xlet (xput t15.2 184 50 v21) fun s23 => (m_X13_simulates n 187 s23).bind fun s24 => xbS (m_X13_latest n 187 s24) fun v26 s25 => xlet (xput s25 184 50 0) fun s27 => some (v26, s27)) fun J18 => if (zI (t15.2 187 (5 : Int).toNat)) ≤ (zI t15.1) then J18 () else if (zI p1) = 3 then xck (zI ((70 + (4 * t15.1)) + 0)) 289 <| xck (zI ((70 + (4 * t15.1)) + 0)) 289 <| xlet (xput t15.2 187 (zI ((70 + (4 * t15.1)) + 0)).toNat ((t15.2 187 (zI ((70 + (4 * t15.1)) + 0)).toNat) + 1)) fun s32 => xlet (t15.1 + 1) fun v33 => rec16 (v33, s32) else J18 ()) n (0, q14)) fun J12 => if (zI p1) = 2 then xck 0 289 <| xck 0 289 <| xlet (xput q11 187 (0 : Int).toNat ((q11 187 (0 : Int).toNat) + 1)) fun s35 => J12 s35 else J12 q11) fun J9 => if (zI p1) = 1 then xck 3 289 <| xck 3 289 <| xlet (xput q8 187 (3 : Int).toNat ((q8 187 (3 : Int).toNat) + 1)) fun s37 => J9 s37 else J9 q8) fun J6 => if (zI p1) = 0 then xck 2 289 <| xck 2 289 <| xlet (xput s5 187 (2 : Int).toNat ((s5 187 (2 : Int).toNat) + 1)) fun s39 => J6 s39 else J6 s5 else some ((-3), s1)
set_option maxHeartbeats 4000000 in
set_option maxRecDepth 100000 in
theorem wk_X13_latestStartWith {X : xX} {Qf : (Int × xS) → State → Prop} {n : Nat} {p1 : Int} {σ : xS} (C : xCx X cX13_latestStartWith "BakeryNightModel" (some .int) { frames := 7, cells := 0, slots := 0, locals := 160 } 3) (hQ : ∀ v τ, Qf (v, τ) = xQf X WW (some (iV v), τ))  : WO X Qf WW σ 0 [(0, .ref (xqa (xXE X).2.2 184)), (1, iV p1)] [] (m_X13_latestStartWith n p1 σ) := by
  unfold m_X13_latestStartWith
  refine x_aload_n C 0 dX13_latestStartWith_0 rfl rfl ?_
  refine x_iconst C (0) dX13_latestStartWith_1 rfl ?_
  refine x_put C 7 0 cls_X13 at_X13 (by decide) wd1509 rfl rfl rfl rfl (xV_pI rfl) dX13_latestStartWith_2 ?_
  refine x_letS (fun s1 => ?_)
  refine x_aload_n C 0 dX13_latestStartWith_5 rfl rfl ?_
  refine x_iload_n C 1 dX13_latestStartWith_6 rfl rfl ?_
  refine x_i2l C dX13_latestStartWith_7 ?_
  refine x_lconst C 0 dX13_latestStartWith_8 rfl ?_
  refine x_ldc2 C (4) wd2229 rfl dX13_latestStartWith_9 ?_
  refine x_callV C (ct_X13_isIn _ _ (zI p1) 0 4 s1) mt_X13_isIn vr_X13_isIn wd1680 cls_X13 at_X13 rfl ⟨rfl, rfl, Nat.le_of_ble_eq_true rfl, Nat.le_of_ble_eq_true rfl⟩ rfl (by decide) dX13_latestStartWith_12 (kP ?_)
  refine x_if_ne C 20 (zI_bo (bo_X13_isIn _ _ _)) dX13_latestStartWith_15 rfl (fun c2 => x_on c2 ?_) (fun c2 => x_op c2 ?_)
  · refine x_aload_n C 0 dX13_latestStartWith_20 rfl rfl ?_
    refine x_callV C (ct_X13_isMuch _ _ n s1) mt_X13_isMuch vr_X13_isMuch wd2213 cls_X13 at_X13 rfl ⟨rfl, rfl, Nat.le_of_ble_eq_true rfl, Nat.le_of_ble_eq_true rfl⟩ rfl (by decide) dX13_latestStartWith_21 (kI (fun v3 => ?_))
    refine x_if_eq C 30 rfl dX13_latestStartWith_24 rfl (fun c4 => x_op c4 ?_) (fun c4 => x_on c4 ?_)
    · refine x_aload_n C 0 dX13_latestStartWith_30 rfl rfl ?_
      refine x_aload_n C 0 dX13_latestStartWith_31 rfl rfl ?_
      refine x_get (v := .ref (xqa (xXE X).2.2 185)) C 0 cls_X13 at_X13 (by decide) wd1502 rfl (xV_r (rt_X13_bakery  _) rfl) dX13_latestStartWith_32 ?_
      refine x_aload_n C 0 dX13_latestStartWith_35 rfl rfl ?_
      refine x_get (v := .ref (xqa (xXE X).2.2 187)) C 2 cls_X13 at_X13 (by decide) wd1504 rfl (xV_r (rt_X13_trial  _) rfl) dX13_latestStartWith_36 ?_
      refine x_callV C (ct_X13_copies _ _ n 185 187 s1 at_X13_bakery at_X13_trial) mt_X13_copies vr_X13_copies wd1847 cls_X13 at_X13 rfl ⟨rfl, rfl, Nat.le_of_ble_eq_true rfl, Nat.le_of_ble_eq_true rfl⟩ rfl (by decide) dX13_latestStartWith_39 (kV (fun s5 => ?_))
      refine x_iload_n C 1 dX13_latestStartWith_42 rfl rfl ?_
      refine x_join (fun J => ∀ q8 : xS, WO X Qf WW q8 60 [(0, .ref (xqa (xXE X).2.2 184)), (1, iV p1)] [] (J q8)) ?_ ?_
      · intro q8
        refine x_iload_n C 1 dX13_latestStartWith_60 rfl rfl ?_
        refine x_iconst C (1) dX13_latestStartWith_61 rfl ?_
        refine x_join (fun J => ∀ q11 : xS, WO X Qf WW q11 79 [(0, .ref (xqa (xXE X).2.2 184)), (1, iV p1)] [] (J q11)) ?_ ?_
        · intro q11
          refine x_iload_n C 1 dX13_latestStartWith_79 rfl rfl ?_
          refine x_iconst C (2) dX13_latestStartWith_80 rfl ?_
          refine x_join (fun J => ∀ q14 : xS, WO X Qf WW q14 98 [(0, .ref (xqa (xXE X).2.2 184)), (1, iV p1)] [] (J q14)) ?_ ?_
          · intro q14
            refine x_iconst C (0) dX13_latestStartWith_98 rfl ?_
            refine x_istore_n (L' := [(2, _), (0, _), (1, _)]) C dX13_latestStartWith_99 rfl (by decide) rfl ?_
            refine x_pick [1, 2, 0] rfl ?_
            refine x_loop (fun t15 : Int × xS => t15.2) (fun t15 : Int × xS => [(0, .ref (xqa (xXE X).2.2 184)), (1, iV p1), (2, iV t15.1)]) (fun rec16 hr17 t15 => ?_) n (0, q14)
            refine x_iload_n C 2 dX13_latestStartWith_100 rfl rfl ?_
            refine x_aload_n C 0 dX13_latestStartWith_101 rfl rfl ?_
            refine x_get (v := .ref (xqa (xXE X).2.2 187)) C 2 cls_X13 at_X13 (by decide) wd1504 rfl (xV_r (rt_X13_trial  _) rfl) dX13_latestStartWith_102 ?_
            refine x_iconst C (5) dX13_latestStartWith_105 rfl ?_
            refine x_iald C at_X13_trial (zIl _ rfl) dX13_latestStartWith_106 (fun _ => ?_)
            refine x_join (fun J => ∀ q20 : Unit, WO X Qf WW t15.2 149 [(0, .ref (xqa (xXE X).2.2 184)), (1, iV p1)] [] (J q20)) ?_ ?_
            · intro q20
              refine x_aload_n C 0 dX13_latestStartWith_149 rfl rfl ?_
              refine x_iload_n C 1 dX13_latestStartWith_150 rfl rfl ?_
              refine x_iconst C (4) dX13_latestStartWith_151 rfl ?_
              refine x_tree 160 [.ref (xqa (xXE X).2.2 184)] (fun v21 => ?_) (fun hJ28 => ?_)
              · refine x_bo (fun hb22 => ?_)
                refine x_put C 50 v21 cls_X13 at_X13 (by decide) wd1552 rfl rfl (xnb hb22) (xfb hb22) (xV_pI rfl) dX13_latestStartWith_160 ?_
                refine x_letS (fun s23 => ?_)
                refine x_aload_n C 0 dX13_latestStartWith_163 rfl rfl ?_
                refine x_aload_n C 0 dX13_latestStartWith_164 rfl rfl ?_
                refine x_get (v := .ref (xqa (xXE X).2.2 187)) C 2 cls_X13 at_X13 (by decide) wd1504 rfl (xV_r (rt_X13_trial  _) rfl) dX13_latestStartWith_165 ?_
                refine x_callV C (ct_X13_simulates _ _ n 187 s23 at_X13_trial) mt_X13_simulates vr_X13_simulates wd1916 cls_X13 at_X13 rfl ⟨rfl, rfl, Nat.le_of_ble_eq_true rfl, Nat.le_of_ble_eq_true rfl⟩ rfl (by decide) dX13_latestStartWith_168 (kV (fun s24 => ?_))
                refine x_aload_n C 0 dX13_latestStartWith_171 rfl rfl ?_
                refine x_aload_n C 0 dX13_latestStartWith_172 rfl rfl ?_
                refine x_get (v := .ref (xqa (xXE X).2.2 187)) C 2 cls_X13 at_X13 (by decide) wd1504 rfl (xV_r (rt_X13_trial  _) rfl) dX13_latestStartWith_173 ?_
                refine x_callV C (ct_X13_latest _ _ n 187 s24 at_X13_trial) mt_X13_latest vr_X13_latest wd2217 cls_X13 at_X13 rfl ⟨rfl, rfl, Nat.le_of_ble_eq_true rfl, Nat.le_of_ble_eq_true rfl⟩ rfl (by decide) dX13_latestStartWith_176 (kS (fun v26 s25 => ?_))
                refine x_istore_n (L' := [(2, _), (0, _), (1, _)]) C dX13_latestStartWith_179 rfl (by decide) rfl ?_
                refine x_aload_n C 1 dX13_latestStartWith_180 rfl rfl ?_
                refine x_iconst C (0) dX13_latestStartWith_181 rfl ?_
                refine x_put C 50 0 cls_X13 at_X13 (by decide) wd1552 rfl rfl (xnb (Or.inl rfl)) (xfb (Or.inl rfl)) (xV_pI rfl) dX13_latestStartWith_182 ?_
                refine x_letS (fun s27 => ?_)
                refine x_iload_n C 0 dX13_latestStartWith_185 rfl rfl ?_
                exact x_iretQ C (hQ _ _) rfl dX13_latestStartWith_186
              · refine x_icmp_ne C 159 rfl (zIl _ rfl) dX13_latestStartWith_152 rfl (fun c29 => ?_) (fun c29 => ?_)
                · refine x_iconst C (0) dX13_latestStartWith_159 rfl ?_
                  exact hJ28 _ (by rw [if_neg c29])
                · refine x_iconst C (1) dX13_latestStartWith_155 rfl ?_
                  refine x_goto C 160 dX13_latestStartWith_156 rfl ?_
                  exact hJ28 _ (by rw [if_pos c29])
            · intro J18 hJ19
              refine x_icmp_ge C 149 rfl rfl dX13_latestStartWith_107 rfl (fun c30 => x_op c30 ?_) (fun c30 => x_on c30 ?_)
              · refine x_pick [0, 1] rfl ?_
                exact hJ19 ()
              · refine x_iload_n C 1 dX13_latestStartWith_110 rfl rfl ?_
                refine x_iconst C (3) dX13_latestStartWith_111 rfl ?_
                refine x_icmp_ne C 149 rfl (zIl _ rfl) dX13_latestStartWith_112 rfl (fun c31 => x_on c31 ?_) (fun c31 => x_op c31 ?_)
                · refine x_pick [0, 1] rfl ?_
                  exact hJ19 ()
                · refine x_aload_n C 0 dX13_latestStartWith_115 rfl rfl ?_
                  refine x_get (v := .ref (xqa (xXE X).2.2 187)) C 2 cls_X13 at_X13 (by decide) wd1504 rfl (xV_r (rt_X13_trial  _) rfl) dX13_latestStartWith_116 ?_
                  refine x_bipush C (70) dX13_latestStartWith_119 rfl ?_
                  refine x_iconst C (4) dX13_latestStartWith_121 rfl ?_
                  refine x_iload_n C 2 dX13_latestStartWith_122 rfl rfl ?_
                  refine x_imul C dX13_latestStartWith_123 ?_
                  refine x_iadd C dX13_latestStartWith_124 ?_
                  refine x_iconst C (0) dX13_latestStartWith_125 rfl ?_
                  refine x_iadd C dX13_latestStartWith_126 ?_
                  refine x_aload_n C 0 dX13_latestStartWith_127 rfl rfl ?_
                  refine x_get (v := .ref (xqa (xXE X).2.2 187)) C 2 cls_X13 at_X13 (by decide) wd1504 rfl (xV_r (rt_X13_trial  _) rfl) dX13_latestStartWith_128 ?_
                  refine x_bipush C (70) dX13_latestStartWith_131 rfl ?_
                  refine x_iconst C (4) dX13_latestStartWith_133 rfl ?_
                  refine x_iload_n C 2 dX13_latestStartWith_134 rfl rfl ?_
                  refine x_imul C dX13_latestStartWith_135 ?_
                  refine x_iadd C dX13_latestStartWith_136 ?_
                  refine x_iconst C (0) dX13_latestStartWith_137 rfl ?_
                  refine x_iadd C dX13_latestStartWith_138 ?_
                  refine x_iald C at_X13_trial rfl dX13_latestStartWith_139 (fun _ => ?_)
                  refine x_iconst C (1) dX13_latestStartWith_140 rfl ?_
                  refine x_iadd C dX13_latestStartWith_141 ?_
                  refine x_iast C at_X13_trial rfl dX13_latestStartWith_142 (fun _ => ?_)
                  refine x_letS (fun s32 => ?_)
                  refine x_inc C 2 (f := _) dX13_latestStartWith_143 rfl (by decide) (1) rfl (fun v33 => ?_)
                  refine x_reL (L' := [(2, _), (0, _), (1, _)]) rfl ?_
                  refine x_goto C 100 dX13_latestStartWith_146 rfl ?_
                  refine x_pick [1, 2, 0] rfl ?_
                  exact hr17 (v33, s32)
          · intro J12 hJ13
            refine x_icmp_ne C 98 rfl (zIl _ rfl) dX13_latestStartWith_81 rfl (fun c34 => x_on c34 ?_) (fun c34 => x_op c34 ?_)
            · refine x_pick [0, 1] rfl ?_
              exact hJ13 q11
            · refine x_aload_n C 0 dX13_latestStartWith_84 rfl rfl ?_
              refine x_get (v := .ref (xqa (xXE X).2.2 187)) C 2 cls_X13 at_X13 (by decide) wd1504 rfl (xV_r (rt_X13_trial  _) rfl) dX13_latestStartWith_85 ?_
              refine x_iconst C (0) dX13_latestStartWith_88 rfl ?_
              refine x_aload_n C 0 dX13_latestStartWith_89 rfl rfl ?_
              refine x_get (v := .ref (xqa (xXE X).2.2 187)) C 2 cls_X13 at_X13 (by decide) wd1504 rfl (xV_r (rt_X13_trial  _) rfl) dX13_latestStartWith_90 ?_
              refine x_iconst C (0) dX13_latestStartWith_93 rfl ?_
              refine x_iald C at_X13_trial (zIl _ rfl) dX13_latestStartWith_94 (fun _ => ?_)
              refine x_iconst C (1) dX13_latestStartWith_95 rfl ?_
              refine x_iadd C dX13_latestStartWith_96 ?_
              refine x_iast C at_X13_trial (zIl _ rfl) dX13_latestStartWith_97 (fun _ => ?_)
              refine x_letS (fun s35 => ?_)
              refine x_pick [0, 1] rfl ?_
              exact hJ13 s35
        · intro J9 hJ10
          refine x_icmp_ne C 79 rfl (zIl _ rfl) dX13_latestStartWith_62 rfl (fun c36 => x_on c36 ?_) (fun c36 => x_op c36 ?_)
          · refine x_pick [0, 1] rfl ?_
            exact hJ10 q8
          · refine x_aload_n C 0 dX13_latestStartWith_65 rfl rfl ?_
            refine x_get (v := .ref (xqa (xXE X).2.2 187)) C 2 cls_X13 at_X13 (by decide) wd1504 rfl (xV_r (rt_X13_trial  _) rfl) dX13_latestStartWith_66 ?_
            refine x_iconst C (3) dX13_latestStartWith_69 rfl ?_
            refine x_aload_n C 0 dX13_latestStartWith_70 rfl rfl ?_
            refine x_get (v := .ref (xqa (xXE X).2.2 187)) C 2 cls_X13 at_X13 (by decide) wd1504 rfl (xV_r (rt_X13_trial  _) rfl) dX13_latestStartWith_71 ?_
            refine x_iconst C (3) dX13_latestStartWith_74 rfl ?_
            refine x_iald C at_X13_trial (zIl _ rfl) dX13_latestStartWith_75 (fun _ => ?_)
            refine x_iconst C (1) dX13_latestStartWith_76 rfl ?_
            refine x_iadd C dX13_latestStartWith_77 ?_
            refine x_iast C at_X13_trial (zIl _ rfl) dX13_latestStartWith_78 (fun _ => ?_)
            refine x_letS (fun s37 => ?_)
            refine x_pick [0, 1] rfl ?_
            exact hJ10 s37
      · intro J6 hJ7
        refine x_if_ne C 60 rfl dX13_latestStartWith_43 rfl (fun c38 => x_on c38 ?_) (fun c38 => x_op c38 ?_)
        · refine x_pick [0, 1] rfl ?_
          exact hJ7 s5
        · refine x_aload_n C 0 dX13_latestStartWith_46 rfl rfl ?_
          refine x_get (v := .ref (xqa (xXE X).2.2 187)) C 2 cls_X13 at_X13 (by decide) wd1504 rfl (xV_r (rt_X13_trial  _) rfl) dX13_latestStartWith_47 ?_
          refine x_iconst C (2) dX13_latestStartWith_50 rfl ?_
          refine x_aload_n C 0 dX13_latestStartWith_51 rfl rfl ?_
          refine x_get (v := .ref (xqa (xXE X).2.2 187)) C 2 cls_X13 at_X13 (by decide) wd1504 rfl (xV_r (rt_X13_trial  _) rfl) dX13_latestStartWith_52 ?_
          refine x_iconst C (2) dX13_latestStartWith_55 rfl ?_
          refine x_iald C at_X13_trial (zIl _ rfl) dX13_latestStartWith_56 (fun _ => ?_)
          refine x_iconst C (1) dX13_latestStartWith_57 rfl ?_
          refine x_iadd C dX13_latestStartWith_58 ?_
          refine x_iast C at_X13_trial (zIl _ rfl) dX13_latestStartWith_59 (fun _ => ?_)
          refine x_letS (fun s39 => ?_)
          refine x_pick [0, 1] rfl ?_
          exact hJ7 s39
    · refine x_bipush C (-3) dX13_latestStartWith_27 rfl ?_
      exact x_iretQ C (hQ _ _) rfl dX13_latestStartWith_29
  · refine x_iconst C (-1) dX13_latestStartWith_18 rfl ?_
    exact x_iretQ C (hQ _ _) rfl dX13_latestStartWith_19
theorem ct_X13_latestStartWith (l : Launch) (E : xE) (n : Nat) (p1 : Int) (σ : xS)   : xMet l E yX13_latestStartWith cX13_latestStartWith 3 (some .int) { frames := 7, cells := 0, slots := 0, locals := 160 } [.ref (xqa E.2.2 184), iV p1] WW WW σ (xrS (m_X13_latestStartWith n p1 σ)) := by
  refine xMet.of0 (by decide) (Nat.le_of_ble_eq_true rfl) rfl rfl (fun X hE C => ?_)
  subst hE
  exact xMap (fun q => (some (iV q.1), q.2)) (wk_X13_latestStartWith C (fun _ _ => rfl) )
theorem mt_X13_latestStartWith : xMth yX13_latestStartWith cX13_latestStartWith 3 (some .int) 1 := ⟨wd2228, wd164, ⟨by decide, by decide, rfl⟩⟩
theorem vr_X13_latestStartWith : xVir yX13_latestStartWith := ⟨wd2226, wd2227⟩
def m_X13_vitalStreet (n : Nat) (σ : xS) : Option (Int × xS) :=
  xlet (xput σ 184 7 0) fun s1 => (m_X13_isMuch n s1).bind fun v2 => if (zI v2) = 0 then (m_X13_simulates n 185 s1).bind fun s4 => (m_X13_copies n 185 187 s4).bind fun s5 => xbS (m_X13_latest n 187 s5) fun v7 s6 => xlet (-1) fun v8 => loopF (fun rec10 (t9 : Int × Int × Int × xS) => xck 7 289 <| if (zI (t9.2.2.2 187 (7 : Int).toNat)) ≤ (zI t9.2.2.1) then some (t9.2.1, t9.2.2.2) else (m_X13_street 187 t9.2.2.1 3 t9.2.2.2).bind fun v13 => xj (fun (q16 : Int × Int × xS) => xlet (t9.2.2.1 + 1) fun v17 => rec10 (q16.1, q16.2.1, v17, q16.2.2)) fun J14 => if (zI v13) = 1 then J14 (t9.1, t9.2.1, t9.2.2.2) else xck (zI ((86 + (4 * t9.2.2.1)) + 3)) 289 <| xlet (xput t9.2.2.2 187 (zI ((86 + (4 * t9.2.2.1)) + 3)).toNat 1) fun s19 => xbS (m_X13_latest n 187 s19) fun v21 s20 => xck (zI ((86 + (4 * t9.2.2.1)) + 3)) 289 <| xlet (xput s20 187 (zI ((86 + (4 * t9.2.2.1)) + 3)).toNat 0) fun s22 => if (zI v21) < (zI t9.1) then J14 (v21, t9.2.2.1, s22) else J14 (t9.1, t9.2.1, s22)) n (v7, v8, 0, s6) else some ((-3), s1)
set_option maxHeartbeats 4000000 in
set_option maxRecDepth 100000 in
theorem wk_X13_vitalStreet {X : xX} {Qf : (Int × xS) → State → Prop} {n : Nat} {σ : xS} (C : xCx X cX13_vitalStreet "BakeryNightModel" (some .int) { frames := 7, cells := 0, slots := 0, locals := 160 } 5) (hQ : ∀ v τ, Qf (v, τ) = xQf X WW (some (iV v), τ))  : WO X Qf WW σ 0 [(0, .ref (xqa (xXE X).2.2 184))] [] (m_X13_vitalStreet n σ) := by
  unfold m_X13_vitalStreet
  refine x_aload_n C 0 dX13_vitalStreet_0 rfl rfl ?_
  refine x_iconst C (0) dX13_vitalStreet_1 rfl ?_
  refine x_put C 7 0 cls_X13 at_X13 (by decide) wd1509 rfl rfl rfl rfl (xV_pI rfl) dX13_vitalStreet_2 ?_
  refine x_letS (fun s1 => ?_)
  refine x_aload_n C 0 dX13_vitalStreet_5 rfl rfl ?_
  refine x_callV C (ct_X13_isMuch _ _ n s1) mt_X13_isMuch vr_X13_isMuch wd2213 cls_X13 at_X13 rfl ⟨rfl, rfl, Nat.le_of_ble_eq_true rfl, Nat.le_of_ble_eq_true rfl⟩ rfl (by decide) dX13_vitalStreet_6 (kI (fun v2 => ?_))
  refine x_if_eq C 15 rfl dX13_vitalStreet_9 rfl (fun c3 => x_op c3 ?_) (fun c3 => x_on c3 ?_)
  · refine x_aload_n C 0 dX13_vitalStreet_15 rfl rfl ?_
    refine x_aload_n C 0 dX13_vitalStreet_16 rfl rfl ?_
    refine x_get (v := .ref (xqa (xXE X).2.2 185)) C 0 cls_X13 at_X13 (by decide) wd1502 rfl (xV_r (rt_X13_bakery  _) rfl) dX13_vitalStreet_17 ?_
    refine x_callV C (ct_X13_simulates _ _ n 185 s1 at_X13_bakery) mt_X13_simulates vr_X13_simulates wd1916 cls_X13 at_X13 rfl ⟨rfl, rfl, Nat.le_of_ble_eq_true rfl, Nat.le_of_ble_eq_true rfl⟩ rfl (by decide) dX13_vitalStreet_20 (kV (fun s4 => ?_))
    refine x_aload_n C 0 dX13_vitalStreet_23 rfl rfl ?_
    refine x_aload_n C 0 dX13_vitalStreet_24 rfl rfl ?_
    refine x_get (v := .ref (xqa (xXE X).2.2 185)) C 0 cls_X13 at_X13 (by decide) wd1502 rfl (xV_r (rt_X13_bakery  _) rfl) dX13_vitalStreet_25 ?_
    refine x_aload_n C 0 dX13_vitalStreet_28 rfl rfl ?_
    refine x_get (v := .ref (xqa (xXE X).2.2 187)) C 2 cls_X13 at_X13 (by decide) wd1504 rfl (xV_r (rt_X13_trial  _) rfl) dX13_vitalStreet_29 ?_
    refine x_callV C (ct_X13_copies _ _ n 185 187 s4 at_X13_bakery at_X13_trial) mt_X13_copies vr_X13_copies wd1847 cls_X13 at_X13 rfl ⟨rfl, rfl, Nat.le_of_ble_eq_true rfl, Nat.le_of_ble_eq_true rfl⟩ rfl (by decide) dX13_vitalStreet_32 (kV (fun s5 => ?_))
    refine x_aload_n C 0 dX13_vitalStreet_35 rfl rfl ?_
    refine x_aload_n C 0 dX13_vitalStreet_36 rfl rfl ?_
    refine x_get (v := .ref (xqa (xXE X).2.2 187)) C 2 cls_X13 at_X13 (by decide) wd1504 rfl (xV_r (rt_X13_trial  _) rfl) dX13_vitalStreet_37 ?_
    refine x_callV C (ct_X13_latest _ _ n 187 s5 at_X13_trial) mt_X13_latest vr_X13_latest wd2217 cls_X13 at_X13 rfl ⟨rfl, rfl, Nat.le_of_ble_eq_true rfl, Nat.le_of_ble_eq_true rfl⟩ rfl (by decide) dX13_vitalStreet_40 (kS (fun v7 s6 => ?_))
    refine x_istore_n (L' := [(1, _), (0, _)]) C dX13_vitalStreet_43 rfl (by decide) rfl ?_
    refine x_iconst C (-1) dX13_vitalStreet_44 rfl ?_
    refine x_letI (fun v8 => ?_)
    refine x_istore_n (L' := [(2, _), (1, _), (0, _)]) C dX13_vitalStreet_45 rfl (by decide) rfl ?_
    refine x_iconst C (0) dX13_vitalStreet_46 rfl ?_
    refine x_istore_n (L' := [(3, _), (2, _), (1, _), (0, _)]) C dX13_vitalStreet_47 rfl (by decide) rfl ?_
    refine x_pick [3, 2, 1, 0] rfl ?_
    refine x_loop (fun t9 : Int × Int × Int × xS => t9.2.2.2) (fun t9 : Int × Int × Int × xS => [(0, .ref (xqa (xXE X).2.2 184)), (1, iV t9.1), (2, iV t9.2.1), (3, iV t9.2.2.1)]) (fun rec10 hr11 t9 => ?_) n (v7, v8, 0, s6)
    refine x_iload_n C 3 dX13_vitalStreet_48 rfl rfl ?_
    refine x_aload_n C 0 dX13_vitalStreet_49 rfl rfl ?_
    refine x_get (v := .ref (xqa (xXE X).2.2 187)) C 2 cls_X13 at_X13 (by decide) wd1504 rfl (xV_r (rt_X13_trial  _) rfl) dX13_vitalStreet_50 ?_
    refine x_bipush C (7) dX13_vitalStreet_53 rfl ?_
    refine x_iald C at_X13_trial (zIl _ rfl) dX13_vitalStreet_55 (fun _ => ?_)
    refine x_icmp_ge C 134 rfl rfl dX13_vitalStreet_56 rfl (fun c12 => x_op c12 ?_) (fun c12 => x_on c12 ?_)
    · refine x_iload_n C 2 dX13_vitalStreet_134 rfl rfl ?_
      exact x_iretQ C (hQ _ _) rfl dX13_vitalStreet_135
    · refine x_aload_n C 0 dX13_vitalStreet_59 rfl rfl ?_
      refine x_aload_n C 0 dX13_vitalStreet_60 rfl rfl ?_
      refine x_get (v := .ref (xqa (xXE X).2.2 187)) C 2 cls_X13 at_X13 (by decide) wd1504 rfl (xV_r (rt_X13_trial  _) rfl) dX13_vitalStreet_61 ?_
      refine x_iload_n C 3 dX13_vitalStreet_64 rfl rfl ?_
      refine x_iconst C (3) dX13_vitalStreet_65 rfl ?_
      refine x_callV C (ct_X13_street _ _ 187 t9.2.2.1 3 t9.2.2.2 at_X13_trial) mt_X13_street vr_X13_street wd2120 cls_X13 at_X13 rfl ⟨rfl, rfl, Nat.le_of_ble_eq_true rfl, Nat.le_of_ble_eq_true rfl⟩ rfl (by decide) dX13_vitalStreet_66 (kI (fun v13 => ?_))
      refine x_iconst C (1) dX13_vitalStreet_69 rfl ?_
      refine x_join (fun J => ∀ q16 : Int × Int × xS, WO X Qf WW q16.2.2 128 [(0, .ref (xqa (xXE X).2.2 184)), (1, iV q16.1), (2, iV q16.2.1), (3, iV t9.2.2.1)] [] (J q16)) ?_ ?_
      · intro q16
        refine x_inc C 3 (f := _) dX13_vitalStreet_128 rfl (by decide) (1) rfl (fun v17 => ?_)
        refine x_reL (L' := [(3, _), (0, _), (1, _), (2, _)]) rfl ?_
        refine x_goto C 48 dX13_vitalStreet_131 rfl ?_
        refine x_pick [1, 2, 3, 0] rfl ?_
        exact hr11 (q16.1, q16.2.1, v17, q16.2.2)
      · intro J14 hJ15
        refine x_icmp_ne C 76 rfl (zIl _ rfl) dX13_vitalStreet_70 rfl (fun c18 => x_on c18 ?_) (fun c18 => x_op c18 ?_)
        · refine x_aload_n C 0 dX13_vitalStreet_76 rfl rfl ?_
          refine x_get (v := .ref (xqa (xXE X).2.2 187)) C 2 cls_X13 at_X13 (by decide) wd1504 rfl (xV_r (rt_X13_trial  _) rfl) dX13_vitalStreet_77 ?_
          refine x_bipush C (86) dX13_vitalStreet_80 rfl ?_
          refine x_iconst C (4) dX13_vitalStreet_82 rfl ?_
          refine x_iload_n C 3 dX13_vitalStreet_83 rfl rfl ?_
          refine x_imul C dX13_vitalStreet_84 ?_
          refine x_iadd C dX13_vitalStreet_85 ?_
          refine x_iconst C (3) dX13_vitalStreet_86 rfl ?_
          refine x_iadd C dX13_vitalStreet_87 ?_
          refine x_iconst C (1) dX13_vitalStreet_88 rfl ?_
          refine x_iast C at_X13_trial rfl dX13_vitalStreet_89 (fun _ => ?_)
          refine x_letS (fun s19 => ?_)
          refine x_aload_n C 0 dX13_vitalStreet_90 rfl rfl ?_
          refine x_aload_n C 0 dX13_vitalStreet_91 rfl rfl ?_
          refine x_get (v := .ref (xqa (xXE X).2.2 187)) C 2 cls_X13 at_X13 (by decide) wd1504 rfl (xV_r (rt_X13_trial  _) rfl) dX13_vitalStreet_92 ?_
          refine x_callV C (ct_X13_latest _ _ n 187 s19 at_X13_trial) mt_X13_latest vr_X13_latest wd2217 cls_X13 at_X13 rfl ⟨rfl, rfl, Nat.le_of_ble_eq_true rfl, Nat.le_of_ble_eq_true rfl⟩ rfl (by decide) dX13_vitalStreet_95 (kS (fun v21 s20 => ?_))
          refine x_istore (L' := [(4, _), (0, _), (1, _), (2, _), (3, _)]) C dX13_vitalStreet_98 (by decide) rfl ?_
          refine x_aload_n C 1 dX13_vitalStreet_100 rfl rfl ?_
          refine x_get (v := .ref (xqa (xXE X).2.2 187)) C 2 cls_X13 at_X13 (by decide) wd1504 rfl (xV_r (rt_X13_trial  _) rfl) dX13_vitalStreet_101 ?_
          refine x_bipush C (86) dX13_vitalStreet_104 rfl ?_
          refine x_iconst C (4) dX13_vitalStreet_106 rfl ?_
          refine x_iload_n C 4 dX13_vitalStreet_107 rfl rfl ?_
          refine x_imul C dX13_vitalStreet_108 ?_
          refine x_iadd C dX13_vitalStreet_109 ?_
          refine x_iconst C (3) dX13_vitalStreet_110 rfl ?_
          refine x_iadd C dX13_vitalStreet_111 ?_
          refine x_iconst C (0) dX13_vitalStreet_112 rfl ?_
          refine x_iast C at_X13_trial rfl dX13_vitalStreet_113 (fun _ => ?_)
          refine x_letS (fun s22 => ?_)
          refine x_iload C 0 dX13_vitalStreet_114 rfl ?_
          refine x_iload_n C 2 dX13_vitalStreet_116 rfl rfl ?_
          refine x_icmp_lt C 123 rfl rfl dX13_vitalStreet_117 rfl (fun c23 => x_op c23 ?_) (fun c23 => x_on c23 ?_)
          · refine x_iload C 0 dX13_vitalStreet_123 rfl ?_
            refine x_istore_n (L' := [(1, _), (4, _), (0, _), (2, _), (3, _)]) C dX13_vitalStreet_125 rfl (by decide) rfl ?_
            refine x_iload_n C 4 dX13_vitalStreet_126 rfl rfl ?_
            refine x_istore_n (L' := [(2, _), (1, _), (4, _), (0, _), (3, _)]) C dX13_vitalStreet_127 rfl (by decide) rfl ?_
            refine x_pick [3, 1, 0, 4] rfl ?_
            exact hJ15 (v21, t9.2.2.1, s22)
          · refine x_goto C 128 dX13_vitalStreet_120 rfl ?_
            refine x_pick [1, 2, 3, 4] rfl ?_
            exact hJ15 (t9.1, t9.2.1, s22)
        · refine x_goto C 128 dX13_vitalStreet_73 rfl ?_
          refine x_pick [0, 1, 2, 3] rfl ?_
          exact hJ15 (t9.1, t9.2.1, t9.2.2.2)
  · refine x_bipush C (-3) dX13_vitalStreet_12 rfl ?_
    exact x_iretQ C (hQ _ _) rfl dX13_vitalStreet_14
theorem ct_X13_vitalStreet (l : Launch) (E : xE) (n : Nat) (σ : xS)   : xMet l E yX13_vitalStreet cX13_vitalStreet 5 (some .int) { frames := 7, cells := 0, slots := 0, locals := 160 } [.ref (xqa E.2.2 184)] WW WW σ (xrS (m_X13_vitalStreet n σ)) := by
  refine xMet.of0 (by decide) (Nat.le_of_ble_eq_true rfl) rfl rfl (fun X hE C => ?_)
  subst hE
  exact xMap (fun q => (some (iV q.1), q.2)) (wk_X13_vitalStreet C (fun _ _ => rfl) )
theorem mt_X13_vitalStreet : xMth yX13_vitalStreet cX13_vitalStreet 5 (some .int) 0 := ⟨wd2233, wd164, ⟨by decide, by decide, rfl⟩⟩
theorem vr_X13_vitalStreet : xVir yX13_vitalStreet := ⟨wd2231, wd2232⟩
def m_X13_records (n : Nat) (σ : xS) : Option xS :=
  xj (fun (q3 : xS) => loopF (fun rec5 (t4 : Int × xS) => if 289 ≤ (zI t4.1) then xlet (xput t4.2 184 4 ((t4.2 184 4) + 1)) fun s8 => xlet (xput s8 184 5 0) fun s9 => some s9 else xck (zI t4.1) 289 <| xck (zI ((289 * (t4.2 184 4)) + t4.1)) 3468 <| xlet (xput t4.2 188 (zI ((289 * (t4.2 184 4)) + t4.1)).toNat (t4.2 185 (zI t4.1).toNat)) fun s10 => xlet (t4.1 + 1) fun v11 => rec5 (v11, s10)) n (0, q3)) fun J1 => if (zI (σ 184 4)) = 12 then xlet (xput σ 184 4 ((σ 184 4) - 1)) fun s13 => loopF (fun rec15 (t14 : Int × xS) => if (zI (289 * (t14.2 184 4))) ≤ (zI t14.1) then J1 t14.2 else xck (zI (t14.1 + 289)) 3468 <| xck (zI t14.1) 3468 <| xlet (xput t14.2 188 (zI t14.1).toNat (t14.2 188 (zI (t14.1 + 289)).toNat)) fun s18 => xlet (t14.1 + 1) fun v19 => rec15 (v19, s18)) n (0, s13) else J1 σ
set_option maxHeartbeats 4000000 in
set_option maxRecDepth 100000 in
theorem wk_X13_records {X : xX} {Qf : xS → State → Prop} {n : Nat} {σ : xS} (C : xCx X cX13_records "BakeryNightModel" none { frames := 0, cells := 0, slots := 0, locals := 0 } 2) (hQ : ∀ τ, Qf τ = xQf X WW (none, τ))  : WO X Qf WW σ 0 [(0, .ref (xqa (xXE X).2.2 184))] [] (m_X13_records n σ) := by
  unfold m_X13_records
  refine x_aload_n C 0 dX13_records_0 rfl rfl ?_
  refine x_get (v := iV (σ 184 4)) C 4 cls_X13 at_X13 (by decide) wd1506 rfl rfl dX13_records_1 ?_
  refine x_bipush C (12) dX13_records_4 rfl ?_
  refine x_join (fun J => ∀ q3 : xS, WO X Qf WW q3 55 [(0, .ref (xqa (xXE X).2.2 184))] [] (J q3)) ?_ ?_
  · intro q3
    refine x_iconst C (0) dX13_records_55 rfl ?_
    refine x_istore_n (L' := [(1, _), (0, _)]) C dX13_records_56 rfl (by decide) rfl ?_
    refine x_pick [1, 0] rfl ?_
    refine x_loop (fun t4 : Int × xS => t4.2) (fun t4 : Int × xS => [(0, .ref (xqa (xXE X).2.2 184)), (1, iV t4.1)]) (fun rec5 hr6 t4 => ?_) n (0, q3)
    refine x_iload_n C 1 dX13_records_57 rfl rfl ?_
    refine x_sipush C (289) dX13_records_58 rfl ?_
    refine x_icmp_ge C 91 rfl (zIl _ rfl) dX13_records_61 rfl (fun c7 => x_op c7 ?_) (fun c7 => x_on c7 ?_)
    · refine x_aload_n C 0 dX13_records_91 rfl rfl ?_
      refine x_aload_n C 0 dX13_records_92 rfl rfl ?_
      refine x_get (v := iV (t4.2 184 4)) C 4 cls_X13 at_X13 (by decide) wd1506 rfl rfl dX13_records_93 ?_
      refine x_iconst C (1) dX13_records_96 rfl ?_
      refine x_iadd C dX13_records_97 ?_
      refine x_put C 4 ((t4.2 184 4) + 1) cls_X13 at_X13 (by decide) wd1506 rfl rfl rfl rfl (xV_pI rfl) dX13_records_98 ?_
      refine x_letS (fun s8 => ?_)
      refine x_aload_n C 0 dX13_records_101 rfl rfl ?_
      refine x_iconst C (0) dX13_records_102 rfl ?_
      refine x_put C 5 0 cls_X13 at_X13 (by decide) wd1507 rfl rfl (xnb (Or.inl rfl)) (xfb (Or.inl rfl)) (xV_pI rfl) dX13_records_103 ?_
      refine x_letS (fun s9 => ?_)
      exact x_vretQ C (hQ _) rfl dX13_records_106
    · refine x_aload_n C 0 dX13_records_64 rfl rfl ?_
      refine x_get (v := .ref (xqa (xXE X).2.2 188)) C 3 cls_X13 at_X13 (by decide) wd1505 rfl (xV_r (rt_X13_undo  _) rfl) dX13_records_65 ?_
      refine x_sipush C (289) dX13_records_68 rfl ?_
      refine x_aload_n C 0 dX13_records_71 rfl rfl ?_
      refine x_get (v := iV (t4.2 184 4)) C 4 cls_X13 at_X13 (by decide) wd1506 rfl rfl dX13_records_72 ?_
      refine x_imul C dX13_records_75 ?_
      refine x_iload_n C 1 dX13_records_76 rfl rfl ?_
      refine x_iadd C dX13_records_77 ?_
      refine x_aload_n C 0 dX13_records_78 rfl rfl ?_
      refine x_get (v := .ref (xqa (xXE X).2.2 185)) C 0 cls_X13 at_X13 (by decide) wd1502 rfl (xV_r (rt_X13_bakery  _) rfl) dX13_records_79 ?_
      refine x_iload_n C 1 dX13_records_82 rfl rfl ?_
      refine x_iald C at_X13_bakery rfl dX13_records_83 (fun _ => ?_)
      refine x_iast C at_X13_undo rfl dX13_records_84 (fun _ => ?_)
      refine x_letS (fun s10 => ?_)
      refine x_inc C 1 (f := _) dX13_records_85 rfl (by decide) (1) rfl (fun v11 => ?_)
      refine x_reL (L' := [(1, _), (0, _)]) rfl ?_
      refine x_goto C 57 dX13_records_88 rfl ?_
      refine x_pick [1, 0] rfl ?_
      exact hr6 (v11, s10)
  · intro J1 hJ2
    refine x_icmp_ne C 55 rfl (zIl _ rfl) dX13_records_6 rfl (fun c12 => x_on c12 ?_) (fun c12 => x_op c12 ?_)
    · refine x_pick [0] rfl ?_
      exact hJ2 σ
    · refine x_aload_n C 0 dX13_records_9 rfl rfl ?_
      refine x_aload_n C 0 dX13_records_10 rfl rfl ?_
      refine x_get (v := iV (σ 184 4)) C 4 cls_X13 at_X13 (by decide) wd1506 rfl rfl dX13_records_11 ?_
      refine x_iconst C (1) dX13_records_14 rfl ?_
      refine x_isub C dX13_records_15 ?_
      refine x_put C 4 ((σ 184 4) - 1) cls_X13 at_X13 (by decide) wd1506 rfl rfl rfl rfl (xV_pI rfl) dX13_records_16 ?_
      refine x_letS (fun s13 => ?_)
      refine x_iconst C (0) dX13_records_19 rfl ?_
      refine x_istore_n (L' := [(1, _), (0, _)]) C dX13_records_20 rfl (by decide) rfl ?_
      refine x_pick [1, 0] rfl ?_
      refine x_loop (fun t14 : Int × xS => t14.2) (fun t14 : Int × xS => [(0, .ref (xqa (xXE X).2.2 184)), (1, iV t14.1)]) (fun rec15 hr16 t14 => ?_) n (0, s13)
      refine x_iload_n C 1 dX13_records_21 rfl rfl ?_
      refine x_sipush C (289) dX13_records_22 rfl ?_
      refine x_aload_n C 0 dX13_records_25 rfl rfl ?_
      refine x_get (v := iV (t14.2 184 4)) C 4 cls_X13 at_X13 (by decide) wd1506 rfl rfl dX13_records_26 ?_
      refine x_imul C dX13_records_29 ?_
      refine x_icmp_ge C 55 rfl rfl dX13_records_30 rfl (fun c17 => x_op c17 ?_) (fun c17 => x_on c17 ?_)
      · refine x_pick [0] rfl ?_
        exact hJ2 t14.2
      · refine x_aload_n C 0 dX13_records_33 rfl rfl ?_
        refine x_get (v := .ref (xqa (xXE X).2.2 188)) C 3 cls_X13 at_X13 (by decide) wd1505 rfl (xV_r (rt_X13_undo  _) rfl) dX13_records_34 ?_
        refine x_iload_n C 1 dX13_records_37 rfl rfl ?_
        refine x_aload_n C 0 dX13_records_38 rfl rfl ?_
        refine x_get (v := .ref (xqa (xXE X).2.2 188)) C 3 cls_X13 at_X13 (by decide) wd1505 rfl (xV_r (rt_X13_undo  _) rfl) dX13_records_39 ?_
        refine x_iload_n C 1 dX13_records_42 rfl rfl ?_
        refine x_sipush C (289) dX13_records_43 rfl ?_
        refine x_iadd C dX13_records_46 ?_
        refine x_iald C at_X13_undo rfl dX13_records_47 (fun _ => ?_)
        refine x_iast C at_X13_undo rfl dX13_records_48 (fun _ => ?_)
        refine x_letS (fun s18 => ?_)
        refine x_inc C 1 (f := _) dX13_records_49 rfl (by decide) (1) rfl (fun v19 => ?_)
        refine x_reL (L' := [(1, _), (0, _)]) rfl ?_
        refine x_goto C 21 dX13_records_52 rfl ?_
        refine x_pick [1, 0] rfl ?_
        exact hr16 (v19, s18)
theorem ct_X13_records (l : Launch) (E : xE) (n : Nat) (σ : xS)   : xMet l E yX13_records cX13_records 2 none { frames := 0, cells := 0, slots := 0, locals := 0 } [.ref (xqa E.2.2 184)] WW WW σ (xrV (m_X13_records n σ)) := by
  refine xMet.of0 (by decide) (Nat.le_of_ble_eq_true rfl) rfl rfl (fun X hE C => ?_)
  subst hE
  exact xMap (fun q => (none, q)) (wk_X13_records C (fun _ => rfl) )
theorem mt_X13_records : xMth yX13_records cX13_records 2 none 0 := ⟨wd2247, wd164, ⟨by decide, by decide, rfl⟩⟩
theorem vr_X13_records : xVir yX13_records := ⟨wd2246, wd148⟩
def m_X13_sets (n : Nat) (p1 : Int) (p2 : Int) (σ : xS) : Option (Int × xS) :=
  (m_X13_records n σ).bind fun s1 => xck (zI p1) 289 <| xlet (s1 185 (zI p1).toNat) fun v2 => xck (zI p1) 289 <| xlet (xput s1 185 (zI p1).toNat p2) fun s3 => some (v2, s3)
set_option maxHeartbeats 4000000 in
set_option maxRecDepth 100000 in
theorem wk_X13_sets {X : xX} {Qf : (Int × xS) → State → Prop} {n : Nat} {p1 : Int} {p2 : Int} {σ : xS} (C : xCx X cX13_sets "BakeryNightModel" (some .int) { frames := 1, cells := 0, slots := 0, locals := 21 } 4) (hQ : ∀ v τ, Qf (v, τ) = xQf X WW (some (iV v), τ))  : WO X Qf WW σ 0 [(0, .ref (xqa (xXE X).2.2 184)), (1, iV p1), (2, iV p2)] [] (m_X13_sets n p1 p2 σ) := by
  unfold m_X13_sets
  refine x_aload_n C 0 dX13_sets_0 rfl rfl ?_
  refine x_callV C (ct_X13_records _ _ n σ) mt_X13_records vr_X13_records wd2244 cls_X13 at_X13 rfl ⟨rfl, rfl, Nat.le_of_ble_eq_true rfl, Nat.le_of_ble_eq_true rfl⟩ rfl (by decide) dX13_sets_1 (kV (fun s1 => ?_))
  refine x_aload_n C 0 dX13_sets_4 rfl rfl ?_
  refine x_get (v := .ref (xqa (xXE X).2.2 185)) C 0 cls_X13 at_X13 (by decide) wd1502 rfl (xV_r (rt_X13_bakery  _) rfl) dX13_sets_5 ?_
  refine x_iload_n C 1 dX13_sets_8 rfl rfl ?_
  refine x_iald C at_X13_bakery rfl dX13_sets_9 (fun _ => ?_)
  refine x_letI (fun v2 => ?_)
  refine x_istore_n (L' := [(3, _), (0, _), (1, _), (2, _)]) C dX13_sets_10 rfl (by decide) rfl ?_
  refine x_aload_n C 1 dX13_sets_11 rfl rfl ?_
  refine x_get (v := .ref (xqa (xXE X).2.2 185)) C 0 cls_X13 at_X13 (by decide) wd1502 rfl (xV_r (rt_X13_bakery  _) rfl) dX13_sets_12 ?_
  refine x_iload_n C 2 dX13_sets_15 rfl rfl ?_
  refine x_iload_n C 3 dX13_sets_16 rfl rfl ?_
  refine x_iast C at_X13_bakery rfl dX13_sets_17 (fun _ => ?_)
  refine x_letS (fun s3 => ?_)
  refine x_iload_n C 0 dX13_sets_18 rfl rfl ?_
  exact x_iretQ C (hQ _ _) rfl dX13_sets_19
theorem ct_X13_sets (l : Launch) (E : xE) (n : Nat) (p1 : Int) (p2 : Int) (σ : xS)   : xMet l E yX13_sets cX13_sets 4 (some .int) { frames := 1, cells := 0, slots := 0, locals := 21 } [.ref (xqa E.2.2 184), iV p1, iV p2] WW WW σ (xrS (m_X13_sets n p1 p2 σ)) := by
  refine xMet.of0 (by decide) (Nat.le_of_ble_eq_true rfl) rfl rfl (fun X hE C => ?_)
  subst hE
  exact xMap (fun q => (some (iV q.1), q.2)) (wk_X13_sets C (fun _ _ => rfl) )
theorem mt_X13_sets : xMth yX13_sets cX13_sets 4 (some .int) 2 := ⟨wd2243, wd164, ⟨by decide, by decide, rfl⟩⟩
theorem vr_X13_sets : xVir yX13_sets := ⟨wd2242, wd147⟩
def m_X13_setRoom (n : Nat) (p1 : Int) (σ : xS) : Option (Int × xS) :=
  xlet (xput σ 184 7 0) fun s1 => xj (fun (q6 : xS × Int) => some (q6.2, q6.1)) fun J4 => if (m_X13_isIn (zI p1) 10 40) = 0 then J4 (s1, (-1)) else xbS (m_X13_sets n 0 p1 s1) fun v9 s8 => J4 (s8, v9)
set_option maxHeartbeats 4000000 in
set_option maxRecDepth 100000 in
theorem wk_X13_setRoom {X : xX} {Qf : (Int × xS) → State → Prop} {n : Nat} {p1 : Int} {σ : xS} (C : xCx X cX13_setRoom "BakeryNightModel" (some .int) { frames := 2, cells := 0, slots := 0, locals := 44 } 2) (hQ : ∀ v τ, Qf (v, τ) = xQf X WW (some (iV v), τ))  : WO X Qf WW σ 0 [(0, .ref (xqa (xXE X).2.2 184)), (1, iV p1)] [] (m_X13_setRoom n p1 σ) := by
  unfold m_X13_setRoom
  refine x_aload_n C 0 dX13_setRoom_0 rfl rfl ?_
  refine x_iconst C (0) dX13_setRoom_1 rfl ?_
  refine x_put C 7 0 cls_X13 at_X13 (by decide) wd1509 rfl rfl rfl rfl (xV_pI rfl) dX13_setRoom_2 ?_
  refine x_letS (fun s1 => ?_)
  refine x_aload_n C 0 dX13_setRoom_5 rfl rfl ?_
  refine x_iload_n C 1 dX13_setRoom_6 rfl rfl ?_
  refine x_i2l C dX13_setRoom_7 ?_
  refine x_ldc2 C (10) wd2238 rfl dX13_setRoom_8 ?_
  refine x_ldc2 C (40) wd2239 rfl dX13_setRoom_11 ?_
  refine x_callV C (ct_X13_isIn _ _ (zI p1) 10 40 s1) mt_X13_isIn vr_X13_isIn wd1680 cls_X13 at_X13 rfl ⟨rfl, rfl, Nat.le_of_ble_eq_true rfl, Nat.le_of_ble_eq_true rfl⟩ rfl (by decide) dX13_setRoom_14 (kP ?_)
  refine x_join (fun J => ∀ q6 : xS × Int, WO X Qf WW q6.1 30 [] [iV q6.2] (J q6)) ?_ ?_
  · intro q6
    exact x_iretQ C (hQ _ _) rfl dX13_setRoom_30
  · intro J4 hJ5
    refine x_if_eq C 29 (zI_bo (bo_X13_isIn _ _ _)) dX13_setRoom_17 rfl (fun c7 => x_op c7 ?_) (fun c7 => x_on c7 ?_)
    · refine x_iconst C (-1) dX13_setRoom_29 rfl ?_
      refine x_pick [] rfl ?_
      exact hJ5 (s1, (-1))
    · refine x_aload_n C 0 dX13_setRoom_20 rfl rfl ?_
      refine x_iconst C (0) dX13_setRoom_21 rfl ?_
      refine x_iload_n C 1 dX13_setRoom_22 rfl rfl ?_
      refine x_callV C (ct_X13_sets _ _ n 0 p1 s1) mt_X13_sets vr_X13_sets wd2240 cls_X13 at_X13 rfl ⟨rfl, rfl, Nat.le_of_ble_eq_true rfl, Nat.le_of_ble_eq_true rfl⟩ rfl (by decide) dX13_setRoom_23 (kS (fun v9 s8 => ?_))
      refine x_goto C 30 dX13_setRoom_26 rfl ?_
      refine x_pick [] rfl ?_
      exact hJ5 (s8, v9)
theorem ct_X13_setRoom (l : Launch) (E : xE) (n : Nat) (p1 : Int) (σ : xS)   : xMet l E yX13_setRoom cX13_setRoom 2 (some .int) { frames := 2, cells := 0, slots := 0, locals := 44 } [.ref (xqa E.2.2 184), iV p1] WW WW σ (xrS (m_X13_setRoom n p1 σ)) := by
  refine xMet.of0 (by decide) (Nat.le_of_ble_eq_true rfl) rfl rfl (fun X hE C => ?_)
  subst hE
  exact xMap (fun q => (some (iV q.1), q.2)) (wk_X13_setRoom C (fun _ _ => rfl) )
theorem mt_X13_setRoom : xMth yX13_setRoom cX13_setRoom 2 (some .int) 1 := ⟨wd2237, wd164, ⟨by decide, by decide, rfl⟩⟩
theorem vr_X13_setRoom : xVir yX13_setRoom := ⟨wd2235, wd2236⟩
def m_X13_breakOven (n : Nat) (p1 : Int) (p2 : Int) (σ : xS) : Option (Int × xS) :=
  xlet (xput σ 184 7 0) fun s1 => (m_X13_isOven p1 s1).bind fun v2 => if (zI v2) = 0 then some (0, s1) else xlet (if (zI p2) = 0 then 0 else 1) fun v4 => xbS (m_X13_sets n ((70 + (4 * p1)) + 3) v4 s1) fun v6 s5 => some (1, s5)
set_option maxHeartbeats 4000000 in
set_option maxRecDepth 100000 in
theorem wk_X13_breakOven {X : xX} {Qf : (Int × xS) → State → Prop} {n : Nat} {p1 : Int} {p2 : Int} {σ : xS} (C : xCx X cX13_breakOven "BakeryNightModel" (some .boolean) { frames := 2, cells := 0, slots := 0, locals := 47 } 4) (hQ : ∀ v τ, Qf (v, τ) = xQf X WW (some (iV v), τ))  : WO X Qf WW σ 0 [(0, .ref (xqa (xXE X).2.2 184)), (1, iV p1), (2, iV p2)] [] (m_X13_breakOven n p1 p2 σ) := by
  unfold m_X13_breakOven
  refine x_aload_n C 0 dX13_breakOven_0 rfl rfl ?_
  refine x_iconst C (0) dX13_breakOven_1 rfl ?_
  refine x_put C 7 0 cls_X13 at_X13 (by decide) wd1509 rfl rfl rfl rfl (xV_pI rfl) dX13_breakOven_2 ?_
  refine x_letS (fun s1 => ?_)
  refine x_aload_n C 0 dX13_breakOven_5 rfl rfl ?_
  refine x_iload_n C 1 dX13_breakOven_6 rfl rfl ?_
  refine x_callV C (ct_X13_isOven _ _ p1 s1) mt_X13_isOven vr_X13_isOven wd2034 cls_X13 at_X13 rfl ⟨rfl, rfl, Nat.le_of_ble_eq_true rfl, Nat.le_of_ble_eq_true rfl⟩ rfl (by decide) dX13_breakOven_7 (kI (fun v2 => ?_))
  refine x_if_ne C 15 rfl dX13_breakOven_10 rfl (fun c3 => x_on c3 ?_) (fun c3 => x_op c3 ?_)
  · refine x_aload_n C 0 dX13_breakOven_15 rfl rfl ?_
    refine x_bipush C (70) dX13_breakOven_16 rfl ?_
    refine x_iconst C (4) dX13_breakOven_18 rfl ?_
    refine x_iload_n C 1 dX13_breakOven_19 rfl rfl ?_
    refine x_imul C dX13_breakOven_20 ?_
    refine x_iadd C dX13_breakOven_21 ?_
    refine x_iconst C (3) dX13_breakOven_22 rfl ?_
    refine x_iadd C dX13_breakOven_23 ?_
    refine x_iload_n C 2 dX13_breakOven_24 rfl rfl ?_
    refine x_tree 33 [iV ((70 + (4 * p1)) + 3), .ref (xqa (xXE X).2.2 184)] (fun v4 => ?_) (fun hJ7 => ?_)
    · refine x_callV C (ct_X13_sets _ _ n ((70 + (4 * p1)) + 3) v4 s1) mt_X13_sets vr_X13_sets wd2240 cls_X13 at_X13 rfl ⟨rfl, rfl, Nat.le_of_ble_eq_true rfl, Nat.le_of_ble_eq_true rfl⟩ rfl (by decide) dX13_breakOven_33 (kS (fun v6 s5 => ?_))
      refine x_istore_n (L' := [(3, _), (0, _), (1, _), (2, _)]) C dX13_breakOven_36 rfl (by decide) rfl ?_
      refine x_iconst C (1) dX13_breakOven_37 rfl ?_
      exact x_zretQ C (hQ _ _) rfl (Or.inr rfl) dX13_breakOven_38
    · refine x_if_eq C 32 rfl dX13_breakOven_25 rfl (fun c8 => ?_) (fun c8 => ?_)
      · refine x_iconst C (0) dX13_breakOven_32 rfl ?_
        exact hJ7 _ (by rw [if_pos c8])
      · refine x_iconst C (1) dX13_breakOven_28 rfl ?_
        refine x_goto C 33 dX13_breakOven_29 rfl ?_
        exact hJ7 _ (by rw [if_neg c8])
  · refine x_iconst C (0) dX13_breakOven_13 rfl ?_
    exact x_zretQ C (hQ _ _) rfl (Or.inl rfl) dX13_breakOven_14
theorem ct_X13_breakOven (l : Launch) (E : xE) (n : Nat) (p1 : Int) (p2 : Int) (σ : xS)   : xMet l E yX13_breakOven cX13_breakOven 4 (some .boolean) { frames := 2, cells := 0, slots := 0, locals := 47 } [.ref (xqa E.2.2 184), iV p1, iV p2] WW WW σ (xrS (m_X13_breakOven n p1 p2 σ)) := by
  refine xMet.of0 (by decide) (Nat.le_of_ble_eq_true rfl) rfl rfl (fun X hE C => ?_)
  subst hE
  exact xMap (fun q => (some (iV q.1), q.2)) (wk_X13_breakOven C (fun _ _ => rfl) )
theorem mt_X13_breakOven : xMth yX13_breakOven cX13_breakOven 4 (some .boolean) 2 := ⟨wd2251, wd164, ⟨by decide, by decide, rfl⟩⟩
theorem vr_X13_breakOven : xVir yX13_breakOven := ⟨wd2249, wd2250⟩
def m_X13_closeStreet (n : Nat) (p1 : Int) (p2 : Int) (σ : xS) : Option (Int × xS) :=
  xlet (xput σ 184 7 0) fun s1 => xck 7 289 <| if (m_X13_isIn (zI p1) 0 ((zI (s1 185 (7 : Int).toNat)) - 1)) = 0 then some (0, s1) else xlet (if (zI p2) = 0 then 0 else 1) fun v3 => xbS (m_X13_sets n ((86 + (4 * p1)) + 3) v3 s1) fun v5 s4 => some (1, s4)
set_option maxHeartbeats 4000000 in
set_option maxRecDepth 100000 in
theorem wk_X13_closeStreet {X : xX} {Qf : (Int × xS) → State → Prop} {n : Nat} {p1 : Int} {p2 : Int} {σ : xS} (C : xCx X cX13_closeStreet "BakeryNightModel" (some .boolean) { frames := 2, cells := 0, slots := 0, locals := 44 } 4) (hQ : ∀ v τ, Qf (v, τ) = xQf X WW (some (iV v), τ))  : WO X Qf WW σ 0 [(0, .ref (xqa (xXE X).2.2 184)), (1, iV p1), (2, iV p2)] [] (m_X13_closeStreet n p1 p2 σ) := by
  unfold m_X13_closeStreet
  refine x_aload_n C 0 dX13_closeStreet_0 rfl rfl ?_
  refine x_iconst C (0) dX13_closeStreet_1 rfl ?_
  refine x_put C 7 0 cls_X13 at_X13 (by decide) wd1509 rfl rfl rfl rfl (xV_pI rfl) dX13_closeStreet_2 ?_
  refine x_letS (fun s1 => ?_)
  refine x_aload_n C 0 dX13_closeStreet_5 rfl rfl ?_
  refine x_iload_n C 1 dX13_closeStreet_6 rfl rfl ?_
  refine x_i2l C dX13_closeStreet_7 ?_
  refine x_lconst C 0 dX13_closeStreet_8 rfl ?_
  refine x_aload_n C 0 dX13_closeStreet_9 rfl rfl ?_
  refine x_get (v := .ref (xqa (xXE X).2.2 185)) C 0 cls_X13 at_X13 (by decide) wd1502 rfl (xV_r (rt_X13_bakery  _) rfl) dX13_closeStreet_10 ?_
  refine x_bipush C (7) dX13_closeStreet_13 rfl ?_
  refine x_iald C at_X13_bakery (zIl _ rfl) dX13_closeStreet_15 (fun _ => ?_)
  refine x_i2l C dX13_closeStreet_16 ?_
  refine x_lconst C 1 dX13_closeStreet_17 rfl ?_
  refine x_lsub C dX13_closeStreet_18 ?_
  refine x_callV C (ct_X13_isIn _ _ (zI p1) 0 ((zI (s1 185 (7 : Int).toNat)) - 1) s1) mt_X13_isIn vr_X13_isIn wd1680 cls_X13 at_X13 rfl ⟨rfl, rfl, Nat.le_of_ble_eq_true rfl, Nat.le_of_ble_eq_true rfl⟩ rfl (by decide) dX13_closeStreet_19 (kP ?_)
  refine x_if_ne C 27 (zI_bo (bo_X13_isIn _ _ _)) dX13_closeStreet_22 rfl (fun c2 => x_on c2 ?_) (fun c2 => x_op c2 ?_)
  · refine x_aload_n C 0 dX13_closeStreet_27 rfl rfl ?_
    refine x_bipush C (86) dX13_closeStreet_28 rfl ?_
    refine x_iconst C (4) dX13_closeStreet_30 rfl ?_
    refine x_iload_n C 1 dX13_closeStreet_31 rfl rfl ?_
    refine x_imul C dX13_closeStreet_32 ?_
    refine x_iadd C dX13_closeStreet_33 ?_
    refine x_iconst C (3) dX13_closeStreet_34 rfl ?_
    refine x_iadd C dX13_closeStreet_35 ?_
    refine x_iload_n C 2 dX13_closeStreet_36 rfl rfl ?_
    refine x_tree 45 [iV ((86 + (4 * p1)) + 3), .ref (xqa (xXE X).2.2 184)] (fun v3 => ?_) (fun hJ6 => ?_)
    · refine x_callV C (ct_X13_sets _ _ n ((86 + (4 * p1)) + 3) v3 s1) mt_X13_sets vr_X13_sets wd2240 cls_X13 at_X13 rfl ⟨rfl, rfl, Nat.le_of_ble_eq_true rfl, Nat.le_of_ble_eq_true rfl⟩ rfl (by decide) dX13_closeStreet_45 (kS (fun v5 s4 => ?_))
      refine x_istore_n (L' := [(3, _), (0, _), (1, _), (2, _)]) C dX13_closeStreet_48 rfl (by decide) rfl ?_
      refine x_iconst C (1) dX13_closeStreet_49 rfl ?_
      exact x_zretQ C (hQ _ _) rfl (Or.inr rfl) dX13_closeStreet_50
    · refine x_if_eq C 44 rfl dX13_closeStreet_37 rfl (fun c7 => ?_) (fun c7 => ?_)
      · refine x_iconst C (0) dX13_closeStreet_44 rfl ?_
        exact hJ6 _ (by rw [if_pos c7])
      · refine x_iconst C (1) dX13_closeStreet_40 rfl ?_
        refine x_goto C 45 dX13_closeStreet_41 rfl ?_
        exact hJ6 _ (by rw [if_neg c7])
  · refine x_iconst C (0) dX13_closeStreet_25 rfl ?_
    exact x_zretQ C (hQ _ _) rfl (Or.inl rfl) dX13_closeStreet_26
theorem ct_X13_closeStreet (l : Launch) (E : xE) (n : Nat) (p1 : Int) (p2 : Int) (σ : xS)   : xMet l E yX13_closeStreet cX13_closeStreet 4 (some .boolean) { frames := 2, cells := 0, slots := 0, locals := 44 } [.ref (xqa E.2.2 184), iV p1, iV p2] WW WW σ (xrS (m_X13_closeStreet n p1 p2 σ)) := by
  refine xMet.of0 (by decide) (Nat.le_of_ble_eq_true rfl) rfl rfl (fun X hE C => ?_)
  subst hE
  exact xMap (fun q => (some (iV q.1), q.2)) (wk_X13_closeStreet C (fun _ _ => rfl) )
theorem mt_X13_closeStreet : xMth yX13_closeStreet cX13_closeStreet 4 (some .boolean) 2 := ⟨wd2255, wd164, ⟨by decide, by decide, rfl⟩⟩
theorem vr_X13_closeStreet : xVir yX13_closeStreet := ⟨wd2253, wd2254⟩
def m_X13_addOrder (n : Nat) (p1 : Int) (p2 : Int) (p3 : Int) (p4 : Int) (σ : xS) : Option (Int × xS) :=
  xlet (xput σ 184 7 0) fun s1 => xck 9 289 <| xlet (s1 185 (9 : Int).toNat) fun v2 => (m_X13_isShop p1 s1).bind fun v3 => xj (fun (q7 : Unit) => some ((-1), s1)) fun J5 => if (zI v3) = 0 then J5 () else (m_X13_isDough p2 s1).bind fun v9 => if (zI v9) = 0 then J5 () else if (m_X13_isIn (zI p3) 1 200) = 0 then J5 () else if (m_X13_isIn (zI p4) 0 1439) = 0 then J5 () else if (zI v2) = 24 then J5 () else (m_X13_records n s1).bind fun s14 => xlet (169 + (5 * v2)) fun v15 => xck (zI (v15 + 0)) 289 <| xlet (xput s14 185 (zI (v15 + 0)).toNat p1) fun s16 => xck (zI (v15 + 1)) 289 <| xlet (xput s16 185 (zI (v15 + 1)).toNat p2) fun s17 => xck (zI (v15 + 2)) 289 <| xlet (xput s17 185 (zI (v15 + 2)).toNat p3) fun s18 => xck (zI (v15 + 3)) 289 <| xlet (xput s18 185 (zI (v15 + 3)).toNat p4) fun s19 => xck (zI (v15 + 4)) 289 <| xlet (xput s19 185 (zI (v15 + 4)).toNat 0) fun s20 => xck 9 289 <| xlet (xput s20 185 (9 : Int).toNat (v2 + 1)) fun s21 => some (v2, s21)
set_option maxHeartbeats 4000000 in
set_option maxRecDepth 100000 in
theorem wk_X13_addOrder {X : xX} {Qf : (Int × xS) → State → Prop} {n : Nat} {p1 : Int} {p2 : Int} {p3 : Int} {p4 : Int} {σ : xS} (C : xCx X cX13_addOrder "BakeryNightModel" (some .int) { frames := 2, cells := 0, slots := 0, locals := 47 } 7) (hQ : ∀ v τ, Qf (v, τ) = xQf X WW (some (iV v), τ))  : WO X Qf WW σ 0 [(0, .ref (xqa (xXE X).2.2 184)), (1, iV p1), (2, iV p2), (3, iV p3), (4, iV p4)] [] (m_X13_addOrder n p1 p2 p3 p4 σ) := by
  unfold m_X13_addOrder
  refine x_aload_n C 0 dX13_addOrder_0 rfl rfl ?_
  refine x_iconst C (0) dX13_addOrder_1 rfl ?_
  refine x_put C 7 0 cls_X13 at_X13 (by decide) wd1509 rfl rfl rfl rfl (xV_pI rfl) dX13_addOrder_2 ?_
  refine x_letS (fun s1 => ?_)
  refine x_aload_n C 0 dX13_addOrder_5 rfl rfl ?_
  refine x_get (v := .ref (xqa (xXE X).2.2 185)) C 0 cls_X13 at_X13 (by decide) wd1502 rfl (xV_r (rt_X13_bakery  _) rfl) dX13_addOrder_6 ?_
  refine x_bipush C (9) dX13_addOrder_9 rfl ?_
  refine x_iald C at_X13_bakery (zIl _ rfl) dX13_addOrder_11 (fun _ => ?_)
  refine x_letI (fun v2 => ?_)
  refine x_istore (L' := [(5, _), (0, _), (1, _), (2, _), (3, _), (4, _)]) C dX13_addOrder_12 (by decide) rfl ?_
  refine x_aload_n C 1 dX13_addOrder_14 rfl rfl ?_
  refine x_iload_n C 2 dX13_addOrder_15 rfl rfl ?_
  refine x_callV C (ct_X13_isShop _ _ p1 s1) mt_X13_isShop vr_X13_isShop wd2112 cls_X13 at_X13 rfl ⟨rfl, rfl, Nat.le_of_ble_eq_true rfl, Nat.le_of_ble_eq_true rfl⟩ rfl (by decide) dX13_addOrder_16 (kI (fun v3 => ?_))
  refine x_join (fun J => ∀ q7 : Unit, WO X Qf WW s1 64 [] [] (J q7)) ?_ ?_
  · intro q7
    refine x_iconst C (-1) dX13_addOrder_64 rfl ?_
    exact x_iretQ C (hQ _ _) rfl dX13_addOrder_65
  · intro J5 hJ6
    refine x_if_eq C 64 rfl dX13_addOrder_19 rfl (fun c8 => x_op c8 ?_) (fun c8 => x_on c8 ?_)
    · refine x_pick [] rfl ?_
      exact hJ6 ()
    · refine x_aload_n C 1 dX13_addOrder_22 rfl rfl ?_
      refine x_iload_n C 3 dX13_addOrder_23 rfl rfl ?_
      refine x_callV C (ct_X13_isDough _ _ p2 s1) mt_X13_isDough vr_X13_isDough wd1867 cls_X13 at_X13 rfl ⟨rfl, rfl, Nat.le_of_ble_eq_true rfl, Nat.le_of_ble_eq_true rfl⟩ rfl (by decide) dX13_addOrder_24 (kI (fun v9 => ?_))
      refine x_if_eq C 64 rfl dX13_addOrder_27 rfl (fun c10 => x_op c10 ?_) (fun c10 => x_on c10 ?_)
      · refine x_pick [] rfl ?_
        exact hJ6 ()
      · refine x_aload_n C 1 dX13_addOrder_30 rfl rfl ?_
        refine x_iload_n C 4 dX13_addOrder_31 rfl rfl ?_
        refine x_i2l C dX13_addOrder_32 ?_
        refine x_lconst C 1 dX13_addOrder_33 rfl ?_
        refine x_ldc2 C (200) wd2260 rfl dX13_addOrder_34 ?_
        refine x_callV C (ct_X13_isIn _ _ (zI p3) 1 200 s1) mt_X13_isIn vr_X13_isIn wd1680 cls_X13 at_X13 rfl ⟨rfl, rfl, Nat.le_of_ble_eq_true rfl, Nat.le_of_ble_eq_true rfl⟩ rfl (by decide) dX13_addOrder_37 (kP ?_)
        refine x_if_eq C 64 (zI_bo (bo_X13_isIn _ _ _)) dX13_addOrder_40 rfl (fun c11 => x_op c11 ?_) (fun c11 => x_on c11 ?_)
        · refine x_pick [] rfl ?_
          exact hJ6 ()
        · refine x_aload_n C 1 dX13_addOrder_43 rfl rfl ?_
          refine x_iload C 5 dX13_addOrder_44 rfl ?_
          refine x_i2l C dX13_addOrder_46 ?_
          refine x_lconst C 0 dX13_addOrder_47 rfl ?_
          refine x_ldc2 C (1439) wd1915 rfl dX13_addOrder_48 ?_
          refine x_callV C (ct_X13_isIn _ _ (zI p4) 0 1439 s1) mt_X13_isIn vr_X13_isIn wd1680 cls_X13 at_X13 rfl ⟨rfl, rfl, Nat.le_of_ble_eq_true rfl, Nat.le_of_ble_eq_true rfl⟩ rfl (by decide) dX13_addOrder_51 (kP ?_)
          refine x_if_eq C 64 (zI_bo (bo_X13_isIn _ _ _)) dX13_addOrder_54 rfl (fun c12 => x_op c12 ?_) (fun c12 => x_on c12 ?_)
          · refine x_pick [] rfl ?_
            exact hJ6 ()
          · refine x_iload C 0 dX13_addOrder_57 rfl ?_
            refine x_bipush C (24) dX13_addOrder_59 rfl ?_
            refine x_icmp_ne C 66 rfl (zIl _ rfl) dX13_addOrder_61 rfl (fun c13 => x_on c13 ?_) (fun c13 => x_op c13 ?_)
            · refine x_aload_n C 1 dX13_addOrder_66 rfl rfl ?_
              refine x_callV C (ct_X13_records _ _ n s1) mt_X13_records vr_X13_records wd2244 cls_X13 at_X13 rfl ⟨rfl, rfl, Nat.le_of_ble_eq_true rfl, Nat.le_of_ble_eq_true rfl⟩ rfl (by decide) dX13_addOrder_67 (kV (fun s14 => ?_))
              refine x_sipush C (169) dX13_addOrder_70 rfl ?_
              refine x_iconst C (5) dX13_addOrder_73 rfl ?_
              refine x_iload C 0 dX13_addOrder_74 rfl ?_
              refine x_imul C dX13_addOrder_76 ?_
              refine x_iadd C dX13_addOrder_77 ?_
              refine x_letI (fun v15 => ?_)
              refine x_istore (L' := [(6, _), (5, _), (0, _), (1, _), (2, _), (3, _), (4, _)]) C dX13_addOrder_78 (by decide) rfl ?_
              refine x_aload_n C 2 dX13_addOrder_80 rfl rfl ?_
              refine x_get (v := .ref (xqa (xXE X).2.2 185)) C 0 cls_X13 at_X13 (by decide) wd1502 rfl (xV_r (rt_X13_bakery  _) rfl) dX13_addOrder_81 ?_
              refine x_iload C 0 dX13_addOrder_84 rfl ?_
              refine x_iconst C (0) dX13_addOrder_86 rfl ?_
              refine x_iadd C dX13_addOrder_87 ?_
              refine x_iload_n C 3 dX13_addOrder_88 rfl rfl ?_
              refine x_iast C at_X13_bakery rfl dX13_addOrder_89 (fun _ => ?_)
              refine x_letS (fun s16 => ?_)
              refine x_aload_n C 2 dX13_addOrder_90 rfl rfl ?_
              refine x_get (v := .ref (xqa (xXE X).2.2 185)) C 0 cls_X13 at_X13 (by decide) wd1502 rfl (xV_r (rt_X13_bakery  _) rfl) dX13_addOrder_91 ?_
              refine x_iload C 0 dX13_addOrder_94 rfl ?_
              refine x_iconst C (1) dX13_addOrder_96 rfl ?_
              refine x_iadd C dX13_addOrder_97 ?_
              refine x_iload_n C 4 dX13_addOrder_98 rfl rfl ?_
              refine x_iast C at_X13_bakery rfl dX13_addOrder_99 (fun _ => ?_)
              refine x_letS (fun s17 => ?_)
              refine x_aload_n C 2 dX13_addOrder_100 rfl rfl ?_
              refine x_get (v := .ref (xqa (xXE X).2.2 185)) C 0 cls_X13 at_X13 (by decide) wd1502 rfl (xV_r (rt_X13_bakery  _) rfl) dX13_addOrder_101 ?_
              refine x_iload C 0 dX13_addOrder_104 rfl ?_
              refine x_iconst C (2) dX13_addOrder_106 rfl ?_
              refine x_iadd C dX13_addOrder_107 ?_
              refine x_iload_n C 5 dX13_addOrder_108 rfl rfl ?_
              refine x_iast C at_X13_bakery rfl dX13_addOrder_109 (fun _ => ?_)
              refine x_letS (fun s18 => ?_)
              refine x_aload_n C 2 dX13_addOrder_110 rfl rfl ?_
              refine x_get (v := .ref (xqa (xXE X).2.2 185)) C 0 cls_X13 at_X13 (by decide) wd1502 rfl (xV_r (rt_X13_bakery  _) rfl) dX13_addOrder_111 ?_
              refine x_iload C 0 dX13_addOrder_114 rfl ?_
              refine x_iconst C (3) dX13_addOrder_116 rfl ?_
              refine x_iadd C dX13_addOrder_117 ?_
              refine x_iload C 6 dX13_addOrder_118 rfl ?_
              refine x_iast C at_X13_bakery rfl dX13_addOrder_120 (fun _ => ?_)
              refine x_letS (fun s19 => ?_)
              refine x_aload_n C 2 dX13_addOrder_121 rfl rfl ?_
              refine x_get (v := .ref (xqa (xXE X).2.2 185)) C 0 cls_X13 at_X13 (by decide) wd1502 rfl (xV_r (rt_X13_bakery  _) rfl) dX13_addOrder_122 ?_
              refine x_iload C 0 dX13_addOrder_125 rfl ?_
              refine x_iconst C (4) dX13_addOrder_127 rfl ?_
              refine x_iadd C dX13_addOrder_128 ?_
              refine x_iconst C (0) dX13_addOrder_129 rfl ?_
              refine x_iast C at_X13_bakery rfl dX13_addOrder_130 (fun _ => ?_)
              refine x_letS (fun s20 => ?_)
              refine x_aload_n C 2 dX13_addOrder_131 rfl rfl ?_
              refine x_get (v := .ref (xqa (xXE X).2.2 185)) C 0 cls_X13 at_X13 (by decide) wd1502 rfl (xV_r (rt_X13_bakery  _) rfl) dX13_addOrder_132 ?_
              refine x_bipush C (9) dX13_addOrder_135 rfl ?_
              refine x_iload C 1 dX13_addOrder_137 rfl ?_
              refine x_iconst C (1) dX13_addOrder_139 rfl ?_
              refine x_iadd C dX13_addOrder_140 ?_
              refine x_iast C at_X13_bakery (zIl _ rfl) dX13_addOrder_141 (fun _ => ?_)
              refine x_letS (fun s21 => ?_)
              refine x_iload C 1 dX13_addOrder_142 rfl ?_
              exact x_iretQ C (hQ _ _) rfl dX13_addOrder_144
            · refine x_pick [] rfl ?_
              exact hJ6 ()
theorem ct_X13_addOrder (l : Launch) (E : xE) (n : Nat) (p1 : Int) (p2 : Int) (p3 : Int) (p4 : Int) (σ : xS)   : xMet l E yX13_addOrder cX13_addOrder 7 (some .int) { frames := 2, cells := 0, slots := 0, locals := 47 } [.ref (xqa E.2.2 184), iV p1, iV p2, iV p3, iV p4] WW WW σ (xrS (m_X13_addOrder n p1 p2 p3 p4 σ)) := by
  refine xMet.of0 (by decide) (Nat.le_of_ble_eq_true rfl) rfl rfl (fun X hE C => ?_)
  subst hE
  exact xMap (fun q => (some (iV q.1), q.2)) (wk_X13_addOrder C (fun _ _ => rfl) )
theorem mt_X13_addOrder : xMth yX13_addOrder cX13_addOrder 7 (some .int) 4 := ⟨wd2259, wd164, ⟨by decide, by decide, rfl⟩⟩
theorem vr_X13_addOrder : xVir yX13_addOrder := ⟨wd2257, wd2258⟩
def m_X13_isOrder (p1 : Int) (σ : xS) : Option Int :=
  xck 9 289 <| xj (fun (q5 : Int) => xbo q5 (some q5)) fun J3 => xj (fun (q8 : Unit) => J3 0) fun J6 => if (m_X13_isIn (zI p1) 0 ((zI (σ 185 (9 : Int).toNat)) - 1)) = 0 then J6 () else (m_X13_isMeant 185 p1 σ).bind fun v10 => if (zI v10) = 0 then J6 () else J3 1
set_option maxHeartbeats 4000000 in
set_option maxRecDepth 100000 in
theorem wk_X13_isOrder {X : xX} {Qf : Int → State → Prop} {p1 : Int} {σ : xS} (C : xCx X cX13_isOrder "BakeryNightModel" (some .boolean) { frames := 2, cells := 0, slots := 0, locals := 45 } 2) (hQ : ∀ v, Qf v = xQf X WW (some (iV v), σ))  : WO X Qf WW σ 0 [(0, .ref (xqa (xXE X).2.2 184)), (1, iV p1)] [] (m_X13_isOrder p1 σ) := by
  unfold m_X13_isOrder
  refine x_aload_n C 0 dX13_isOrder_0 rfl rfl ?_
  refine x_iload_n C 1 dX13_isOrder_1 rfl rfl ?_
  refine x_i2l C dX13_isOrder_2 ?_
  refine x_lconst C 0 dX13_isOrder_3 rfl ?_
  refine x_aload_n C 0 dX13_isOrder_4 rfl rfl ?_
  refine x_get (v := .ref (xqa (xXE X).2.2 185)) C 0 cls_X13 at_X13 (by decide) wd1502 rfl (xV_r (rt_X13_bakery  _) rfl) dX13_isOrder_5 ?_
  refine x_bipush C (9) dX13_isOrder_8 rfl ?_
  refine x_iald C at_X13_bakery (zIl _ rfl) dX13_isOrder_10 (fun _ => ?_)
  refine x_i2l C dX13_isOrder_11 ?_
  refine x_lconst C 1 dX13_isOrder_12 rfl ?_
  refine x_lsub C dX13_isOrder_13 ?_
  refine x_callV C (ct_X13_isIn _ _ (zI p1) 0 ((zI (σ 185 (9 : Int).toNat)) - 1) σ) mt_X13_isIn vr_X13_isIn wd1680 cls_X13 at_X13 rfl ⟨rfl, rfl, Nat.le_of_ble_eq_true rfl, Nat.le_of_ble_eq_true rfl⟩ rfl (by decide) dX13_isOrder_14 (kP ?_)
  refine x_join (fun J => ∀ q5 : Int, WO X Qf WW σ 37 [] [iV q5] (J q5)) ?_ ?_
  · intro q5
    exact x_bo (fun hb => x_zretQ C (hQ _) rfl hb dX13_isOrder_37)
  · intro J3 hJ4
    refine x_join (fun J => ∀ q8 : Unit, WO X Qf WW σ 36 [] [] (J q8)) ?_ ?_
    · intro q8
      refine x_iconst C (0) dX13_isOrder_36 rfl ?_
      refine x_pick [] rfl ?_
      exact hJ4 0
    · intro J6 hJ7
      refine x_if_eq C 36 (zI_bo (bo_X13_isIn _ _ _)) dX13_isOrder_17 rfl (fun c9 => x_op c9 ?_) (fun c9 => x_on c9 ?_)
      · refine x_pick [] rfl ?_
        exact hJ7 ()
      · refine x_aload_n C 0 dX13_isOrder_20 rfl rfl ?_
        refine x_aload_n C 0 dX13_isOrder_21 rfl rfl ?_
        refine x_get (v := .ref (xqa (xXE X).2.2 185)) C 0 cls_X13 at_X13 (by decide) wd1502 rfl (xV_r (rt_X13_bakery  _) rfl) dX13_isOrder_22 ?_
        refine x_iload_n C 1 dX13_isOrder_25 rfl rfl ?_
        refine x_callV C (ct_X13_isMeant _ _ 185 p1 σ at_X13_bakery) mt_X13_isMeant vr_X13_isMeant wd1875 cls_X13 at_X13 rfl ⟨rfl, rfl, Nat.le_of_ble_eq_true rfl, Nat.le_of_ble_eq_true rfl⟩ rfl (by decide) dX13_isOrder_26 (kI (fun v10 => ?_))
        refine x_if_eq C 36 rfl dX13_isOrder_29 rfl (fun c11 => x_op c11 ?_) (fun c11 => x_on c11 ?_)
        · refine x_pick [] rfl ?_
          exact hJ7 ()
        · refine x_iconst C (1) dX13_isOrder_32 rfl ?_
          refine x_goto C 37 dX13_isOrder_33 rfl ?_
          refine x_pick [] rfl ?_
          exact hJ4 1
theorem ct_X13_isOrder (l : Launch) (E : xE) (p1 : Int) (σ : xS)   : xMet l E yX13_isOrder cX13_isOrder 2 (some .boolean) { frames := 2, cells := 0, slots := 0, locals := 45 } [.ref (xqa E.2.2 184), iV p1] WW WW σ (xrI (m_X13_isOrder p1 σ) σ) := by
  refine xMet.of0 (by decide) (Nat.le_of_ble_eq_true rfl) rfl rfl (fun X hE C => ?_)
  subst hE
  exact xMap (fun v => (some (iV v), σ)) (wk_X13_isOrder C (fun _ => rfl) )
theorem mt_X13_isOrder : xMth yX13_isOrder cX13_isOrder 2 (some .boolean) 1 := ⟨wd2268, wd164, ⟨by decide, by decide, rfl⟩⟩
theorem vr_X13_isOrder : xVir yX13_isOrder := ⟨wd2267, wd149⟩
def m_X13_cancelOrder (n : Nat) (p1 : Int) (σ : xS) : Option (Int × xS) :=
  xlet (xput σ 184 7 0) fun s1 => (m_X13_isOrder p1 s1).bind fun v2 => if (zI v2) = 0 then some (0, s1) else xbS (m_X13_sets n ((169 + (5 * p1)) + 4) 1 s1) fun v5 s4 => some (1, s4)
set_option maxHeartbeats 4000000 in
set_option maxRecDepth 100000 in
theorem wk_X13_cancelOrder {X : xX} {Qf : (Int × xS) → State → Prop} {n : Nat} {p1 : Int} {σ : xS} (C : xCx X cX13_cancelOrder "BakeryNightModel" (some .boolean) { frames := 3, cells := 0, slots := 0, locals := 66 } 3) (hQ : ∀ v τ, Qf (v, τ) = xQf X WW (some (iV v), τ))  : WO X Qf WW σ 0 [(0, .ref (xqa (xXE X).2.2 184)), (1, iV p1)] [] (m_X13_cancelOrder n p1 σ) := by
  unfold m_X13_cancelOrder
  refine x_aload_n C 0 dX13_cancelOrder_0 rfl rfl ?_
  refine x_iconst C (0) dX13_cancelOrder_1 rfl ?_
  refine x_put C 7 0 cls_X13 at_X13 (by decide) wd1509 rfl rfl rfl rfl (xV_pI rfl) dX13_cancelOrder_2 ?_
  refine x_letS (fun s1 => ?_)
  refine x_aload_n C 0 dX13_cancelOrder_5 rfl rfl ?_
  refine x_iload_n C 1 dX13_cancelOrder_6 rfl rfl ?_
  refine x_callV C (ct_X13_isOrder _ _ p1 s1) mt_X13_isOrder vr_X13_isOrder wd2265 cls_X13 at_X13 rfl ⟨rfl, rfl, Nat.le_of_ble_eq_true rfl, Nat.le_of_ble_eq_true rfl⟩ rfl (by decide) dX13_cancelOrder_7 (kI (fun v2 => ?_))
  refine x_if_ne C 15 rfl dX13_cancelOrder_10 rfl (fun c3 => x_on c3 ?_) (fun c3 => x_op c3 ?_)
  · refine x_aload_n C 0 dX13_cancelOrder_15 rfl rfl ?_
    refine x_sipush C (169) dX13_cancelOrder_16 rfl ?_
    refine x_iconst C (5) dX13_cancelOrder_19 rfl ?_
    refine x_iload_n C 1 dX13_cancelOrder_20 rfl rfl ?_
    refine x_imul C dX13_cancelOrder_21 ?_
    refine x_iadd C dX13_cancelOrder_22 ?_
    refine x_iconst C (4) dX13_cancelOrder_23 rfl ?_
    refine x_iadd C dX13_cancelOrder_24 ?_
    refine x_iconst C (1) dX13_cancelOrder_25 rfl ?_
    refine x_callV C (ct_X13_sets _ _ n ((169 + (5 * p1)) + 4) 1 s1) mt_X13_sets vr_X13_sets wd2240 cls_X13 at_X13 rfl ⟨rfl, rfl, Nat.le_of_ble_eq_true rfl, Nat.le_of_ble_eq_true rfl⟩ rfl (by decide) dX13_cancelOrder_26 (kS (fun v5 s4 => ?_))
    refine x_istore_n (L' := [(2, _), (0, _), (1, _)]) C dX13_cancelOrder_29 rfl (by decide) rfl ?_
    refine x_iconst C (1) dX13_cancelOrder_30 rfl ?_
    exact x_zretQ C (hQ _ _) rfl (Or.inr rfl) dX13_cancelOrder_31
  · refine x_iconst C (0) dX13_cancelOrder_13 rfl ?_
    exact x_zretQ C (hQ _ _) rfl (Or.inl rfl) dX13_cancelOrder_14
theorem ct_X13_cancelOrder (l : Launch) (E : xE) (n : Nat) (p1 : Int) (σ : xS)   : xMet l E yX13_cancelOrder cX13_cancelOrder 3 (some .boolean) { frames := 3, cells := 0, slots := 0, locals := 66 } [.ref (xqa E.2.2 184), iV p1] WW WW σ (xrS (m_X13_cancelOrder n p1 σ)) := by
  refine xMet.of0 (by decide) (Nat.le_of_ble_eq_true rfl) rfl rfl (fun X hE C => ?_)
  subst hE
  exact xMap (fun q => (some (iV q.1), q.2)) (wk_X13_cancelOrder C (fun _ _ => rfl) )
theorem mt_X13_cancelOrder : xMth yX13_cancelOrder cX13_cancelOrder 3 (some .boolean) 1 := ⟨wd2264, wd164, ⟨by decide, by decide, rfl⟩⟩
theorem vr_X13_cancelOrder : xVir yX13_cancelOrder := ⟨wd2262, wd2263⟩
def m_X13_moveOrder (n : Nat) (p1 : Int) (p2 : Int) (σ : xS) : Option (Int × xS) :=
  xlet (xput σ 184 7 0) fun s1 => (m_X13_isOrder p1 s1).bind fun v2 => xj (fun (q9 : xS × Int) => some (q9.2, q9.1)) fun J7 => xj (fun (q12 : Unit) => J7 (s1, (-1))) fun J10 => if (zI v2) = 0 then J10 () else if (m_X13_isIn (zI p2) 0 1439) = 0 then J10 () else xbS (m_X13_sets n ((169 + (5 * p1)) + 3) p2 s1) fun v16 s15 => J7 (s15, v16)
set_option maxHeartbeats 4000000 in
set_option maxRecDepth 100000 in
theorem wk_X13_moveOrder {X : xX} {Qf : (Int × xS) → State → Prop} {n : Nat} {p1 : Int} {p2 : Int} {σ : xS} (C : xCx X cX13_moveOrder "BakeryNightModel" (some .int) { frames := 3, cells := 0, slots := 0, locals := 66 } 3) (hQ : ∀ v τ, Qf (v, τ) = xQf X WW (some (iV v), τ))  : WO X Qf WW σ 0 [(0, .ref (xqa (xXE X).2.2 184)), (1, iV p1), (2, iV p2)] [] (m_X13_moveOrder n p1 p2 σ) := by
  unfold m_X13_moveOrder
  refine x_aload_n C 0 dX13_moveOrder_0 rfl rfl ?_
  refine x_iconst C (0) dX13_moveOrder_1 rfl ?_
  refine x_put C 7 0 cls_X13 at_X13 (by decide) wd1509 rfl rfl rfl rfl (xV_pI rfl) dX13_moveOrder_2 ?_
  refine x_letS (fun s1 => ?_)
  refine x_aload_n C 0 dX13_moveOrder_5 rfl rfl ?_
  refine x_iload_n C 1 dX13_moveOrder_6 rfl rfl ?_
  refine x_callV C (ct_X13_isOrder _ _ p1 s1) mt_X13_isOrder vr_X13_isOrder wd2265 cls_X13 at_X13 rfl ⟨rfl, rfl, Nat.le_of_ble_eq_true rfl, Nat.le_of_ble_eq_true rfl⟩ rfl (by decide) dX13_moveOrder_7 (kI (fun v2 => ?_))
  refine x_join (fun J => ∀ q9 : xS × Int, WO X Qf WW q9.1 44 [] [iV q9.2] (J q9)) ?_ ?_
  · intro q9
    exact x_iretQ C (hQ _ _) rfl dX13_moveOrder_44
  · intro J7 hJ8
    refine x_join (fun J => ∀ q12 : Unit, WO X Qf WW s1 43 [] [] (J q12)) ?_ ?_
    · intro q12
      refine x_iconst C (-1) dX13_moveOrder_43 rfl ?_
      refine x_pick [] rfl ?_
      exact hJ8 (s1, (-1))
    · intro J10 hJ11
      refine x_if_eq C 43 rfl dX13_moveOrder_10 rfl (fun c13 => x_op c13 ?_) (fun c13 => x_on c13 ?_)
      · refine x_pick [] rfl ?_
        exact hJ11 ()
      · refine x_aload_n C 0 dX13_moveOrder_13 rfl rfl ?_
        refine x_iload_n C 2 dX13_moveOrder_14 rfl rfl ?_
        refine x_i2l C dX13_moveOrder_15 ?_
        refine x_lconst C 0 dX13_moveOrder_16 rfl ?_
        refine x_ldc2 C (1439) wd1915 rfl dX13_moveOrder_17 ?_
        refine x_callV C (ct_X13_isIn _ _ (zI p2) 0 1439 s1) mt_X13_isIn vr_X13_isIn wd1680 cls_X13 at_X13 rfl ⟨rfl, rfl, Nat.le_of_ble_eq_true rfl, Nat.le_of_ble_eq_true rfl⟩ rfl (by decide) dX13_moveOrder_20 (kP ?_)
        refine x_if_eq C 43 (zI_bo (bo_X13_isIn _ _ _)) dX13_moveOrder_23 rfl (fun c14 => x_op c14 ?_) (fun c14 => x_on c14 ?_)
        · refine x_pick [] rfl ?_
          exact hJ11 ()
        · refine x_aload_n C 0 dX13_moveOrder_26 rfl rfl ?_
          refine x_sipush C (169) dX13_moveOrder_27 rfl ?_
          refine x_iconst C (5) dX13_moveOrder_30 rfl ?_
          refine x_iload_n C 1 dX13_moveOrder_31 rfl rfl ?_
          refine x_imul C dX13_moveOrder_32 ?_
          refine x_iadd C dX13_moveOrder_33 ?_
          refine x_iconst C (3) dX13_moveOrder_34 rfl ?_
          refine x_iadd C dX13_moveOrder_35 ?_
          refine x_iload_n C 2 dX13_moveOrder_36 rfl rfl ?_
          refine x_callV C (ct_X13_sets _ _ n ((169 + (5 * p1)) + 3) p2 s1) mt_X13_sets vr_X13_sets wd2240 cls_X13 at_X13 rfl ⟨rfl, rfl, Nat.le_of_ble_eq_true rfl, Nat.le_of_ble_eq_true rfl⟩ rfl (by decide) dX13_moveOrder_37 (kS (fun v16 s15 => ?_))
          refine x_goto C 44 dX13_moveOrder_40 rfl ?_
          refine x_pick [] rfl ?_
          exact hJ8 (s15, v16)
theorem ct_X13_moveOrder (l : Launch) (E : xE) (n : Nat) (p1 : Int) (p2 : Int) (σ : xS)   : xMet l E yX13_moveOrder cX13_moveOrder 3 (some .int) { frames := 3, cells := 0, slots := 0, locals := 66 } [.ref (xqa E.2.2 184), iV p1, iV p2] WW WW σ (xrS (m_X13_moveOrder n p1 p2 σ)) := by
  refine xMet.of0 (by decide) (Nat.le_of_ble_eq_true rfl) rfl rfl (fun X hE C => ?_)
  subst hE
  exact xMap (fun q => (some (iV q.1), q.2)) (wk_X13_moveOrder C (fun _ _ => rfl) )
theorem mt_X13_moveOrder : xMth yX13_moveOrder cX13_moveOrder 3 (some .int) 2 := ⟨wd2272, wd164, ⟨by decide, by decide, rfl⟩⟩
theorem vr_X13_moveOrder : xVir yX13_moveOrder := ⟨wd2270, wd2271⟩
def m_X13_undo (n : Nat) (σ : xS) : Option (Int × xS) :=
  xlet (xput σ 184 7 0) fun s1 => if (zI (s1 184 4)) = 0 then some ((-1), s1) else xlet (xput s1 184 4 ((s1 184 4) - 1)) fun s3 => loopF (fun rec5 (t4 : Int × xS) => if 289 ≤ (zI t4.1) then xlet (xput t4.2 184 5 0) fun s8 => some (s8 184 4, s8) else xck (zI ((289 * (t4.2 184 4)) + t4.1)) 3468 <| xck (zI t4.1) 289 <| xlet (xput t4.2 185 (zI t4.1).toNat (t4.2 188 (zI ((289 * (t4.2 184 4)) + t4.1)).toNat)) fun s9 => xlet (t4.1 + 1) fun v10 => rec5 (v10, s9)) n (0, s3)
set_option maxHeartbeats 4000000 in
set_option maxRecDepth 100000 in
theorem wk_X13_undo {X : xX} {Qf : (Int × xS) → State → Prop} {n : Nat} {σ : xS} (C : xCx X cX13_undo "BakeryNightModel" (some .int) { frames := 0, cells := 0, slots := 0, locals := 0 } 2) (hQ : ∀ v τ, Qf (v, τ) = xQf X WW (some (iV v), τ))  : WO X Qf WW σ 0 [(0, .ref (xqa (xXE X).2.2 184))] [] (m_X13_undo n σ) := by
  unfold m_X13_undo
  refine x_aload_n C 0 dX13_undo_0 rfl rfl ?_
  refine x_iconst C (0) dX13_undo_1 rfl ?_
  refine x_put C 7 0 cls_X13 at_X13 (by decide) wd1509 rfl rfl rfl rfl (xV_pI rfl) dX13_undo_2 ?_
  refine x_letS (fun s1 => ?_)
  refine x_aload_n C 0 dX13_undo_5 rfl rfl ?_
  refine x_get (v := iV (s1 184 4)) C 4 cls_X13 at_X13 (by decide) wd1506 rfl rfl dX13_undo_6 ?_
  refine x_if_ne C 14 rfl dX13_undo_9 rfl (fun c2 => x_on c2 ?_) (fun c2 => x_op c2 ?_)
  · refine x_aload_n C 0 dX13_undo_14 rfl rfl ?_
    refine x_aload_n C 0 dX13_undo_15 rfl rfl ?_
    refine x_get (v := iV (s1 184 4)) C 4 cls_X13 at_X13 (by decide) wd1506 rfl rfl dX13_undo_16 ?_
    refine x_iconst C (1) dX13_undo_19 rfl ?_
    refine x_isub C dX13_undo_20 ?_
    refine x_put C 4 ((s1 184 4) - 1) cls_X13 at_X13 (by decide) wd1506 rfl rfl rfl rfl (xV_pI rfl) dX13_undo_21 ?_
    refine x_letS (fun s3 => ?_)
    refine x_iconst C (0) dX13_undo_24 rfl ?_
    refine x_istore_n (L' := [(1, _), (0, _)]) C dX13_undo_25 rfl (by decide) rfl ?_
    refine x_pick [1, 0] rfl ?_
    refine x_loop (fun t4 : Int × xS => t4.2) (fun t4 : Int × xS => [(0, .ref (xqa (xXE X).2.2 184)), (1, iV t4.1)]) (fun rec5 hr6 t4 => ?_) n (0, s3)
    refine x_iload_n C 1 dX13_undo_26 rfl rfl ?_
    refine x_sipush C (289) dX13_undo_27 rfl ?_
    refine x_icmp_ge C 60 rfl (zIl _ rfl) dX13_undo_30 rfl (fun c7 => x_op c7 ?_) (fun c7 => x_on c7 ?_)
    · refine x_aload_n C 0 dX13_undo_60 rfl rfl ?_
      refine x_iconst C (0) dX13_undo_61 rfl ?_
      refine x_put C 5 0 cls_X13 at_X13 (by decide) wd1507 rfl rfl (xnb (Or.inl rfl)) (xfb (Or.inl rfl)) (xV_pI rfl) dX13_undo_62 ?_
      refine x_letS (fun s8 => ?_)
      refine x_aload_n C 0 dX13_undo_65 rfl rfl ?_
      refine x_get (v := iV (s8 184 4)) C 4 cls_X13 at_X13 (by decide) wd1506 rfl rfl dX13_undo_66 ?_
      exact x_iretQ C (hQ _ _) rfl dX13_undo_69
    · refine x_aload_n C 0 dX13_undo_33 rfl rfl ?_
      refine x_get (v := .ref (xqa (xXE X).2.2 185)) C 0 cls_X13 at_X13 (by decide) wd1502 rfl (xV_r (rt_X13_bakery  _) rfl) dX13_undo_34 ?_
      refine x_iload_n C 1 dX13_undo_37 rfl rfl ?_
      refine x_aload_n C 0 dX13_undo_38 rfl rfl ?_
      refine x_get (v := .ref (xqa (xXE X).2.2 188)) C 3 cls_X13 at_X13 (by decide) wd1505 rfl (xV_r (rt_X13_undo  _) rfl) dX13_undo_39 ?_
      refine x_sipush C (289) dX13_undo_42 rfl ?_
      refine x_aload_n C 0 dX13_undo_45 rfl rfl ?_
      refine x_get (v := iV (t4.2 184 4)) C 4 cls_X13 at_X13 (by decide) wd1506 rfl rfl dX13_undo_46 ?_
      refine x_imul C dX13_undo_49 ?_
      refine x_iload_n C 1 dX13_undo_50 rfl rfl ?_
      refine x_iadd C dX13_undo_51 ?_
      refine x_iald C at_X13_undo rfl dX13_undo_52 (fun _ => ?_)
      refine x_iast C at_X13_bakery rfl dX13_undo_53 (fun _ => ?_)
      refine x_letS (fun s9 => ?_)
      refine x_inc C 1 (f := _) dX13_undo_54 rfl (by decide) (1) rfl (fun v10 => ?_)
      refine x_reL (L' := [(1, _), (0, _)]) rfl ?_
      refine x_goto C 26 dX13_undo_57 rfl ?_
      refine x_pick [1, 0] rfl ?_
      exact hr6 (v10, s9)
  · refine x_iconst C (-1) dX13_undo_12 rfl ?_
    exact x_iretQ C (hQ _ _) rfl dX13_undo_13
theorem ct_X13_undo (l : Launch) (E : xE) (n : Nat) (σ : xS)   : xMet l E yX13_undo cX13_undo 2 (some .int) { frames := 0, cells := 0, slots := 0, locals := 0 } [.ref (xqa E.2.2 184)] WW WW σ (xrS (m_X13_undo n σ)) := by
  refine xMet.of0 (by decide) (Nat.le_of_ble_eq_true rfl) rfl rfl (fun X hE C => ?_)
  subst hE
  exact xMap (fun q => (some (iV q.1), q.2)) (wk_X13_undo C (fun _ _ => rfl) )
theorem mt_X13_undo : xMth yX13_undo cX13_undo 2 (some .int) 0 := ⟨wd2276, wd164, ⟨by decide, by decide, rfl⟩⟩
theorem vr_X13_undo : xVir yX13_undo := ⟨wd2274, wd2275⟩
