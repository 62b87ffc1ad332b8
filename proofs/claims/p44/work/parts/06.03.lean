def m_X8_measureSets (n : Nat) (k0 : Nat) (k1 : Nat) (σ : xS) : Option xS :=
  loopF (fun rec2 (t1 : Int × xS) => if (zI (t1.2 k0 3)) < (zI t1.1) then some t1.2 else xj (fun (q8 : xS) => xlet (t1.1 + 1) fun v9 => rec2 (v9, q8)) fun J6 => if (zI (zand t1.1 (zxor (t1.2 k0 3) (-1)))) = 0 then (m_X8_drive n k0 (k1 + 39) t1.1 t1.2).bind fun s11 => J6 s11 else J6 t1.2) n (0, σ)
set_option maxHeartbeats 4000000 in
set_option maxRecDepth 100000 in
theorem wk_X8_measureSets {X : xX} {Qf : xS → State → Prop} {n : Nat} {k0 : Nat} {k1 : Nat} {σ : xS} (C : xCx X cX8_measureSets "BakeryNight$Plan" none { frames := 3, cells := 0, slots := 0, locals := 74 } 3) (hQ : ∀ τ, Qf τ = xQf X WW (none, τ)) (hk0 : isPl k0) (hk1 : isBk k1) : WO X Qf WW σ 0 [(0, .ref (xqa (xXE X).2.2 k0)), (1, .ref (xqa (xXE X).2.2 k1))] [] (m_X8_measureSets n k0 k1 σ) := by
  unfold m_X8_measureSets
  refine x_iconst C (0) dX8_measureSets_0 rfl ?_
  refine x_istore_n (L' := [(2, _), (0, _), (1, _)]) C dX8_measureSets_1 rfl (by decide) rfl ?_
  refine x_pick [1, 2, 0] rfl ?_
  refine x_loop (fun t1 : Int × xS => t1.2) (fun t1 : Int × xS => [(0, .ref (xqa (xXE X).2.2 k0)), (1, .ref (xqa (xXE X).2.2 k1)), (2, iV t1.1)]) (fun rec2 hr3 t1 => ?_) n (0, σ)
  refine x_iload_n C 2 dX8_measureSets_2 rfl rfl ?_
  refine x_aload_n C 0 dX8_measureSets_3 rfl rfl ?_
  refine x_get (v := iV (t1.2 k0 3)) C 3 cls_X8 (at_X8 hk0) (by decide) wd522 rfl rfl dX8_measureSets_4 ?_
  refine x_icmp_gt C 36 rfl rfl dX8_measureSets_7 rfl (fun c4 => x_op c4 ?_) (fun c4 => x_on c4 ?_)
  · exact x_vretQ C (hQ _) rfl dX8_measureSets_36
  · refine x_iload_n C 2 dX8_measureSets_10 rfl rfl ?_
    refine x_aload_n C 0 dX8_measureSets_11 rfl rfl ?_
    refine x_get (v := iV (t1.2 k0 3)) C 3 cls_X8 (at_X8 hk0) (by decide) wd522 rfl rfl dX8_measureSets_12 ?_
    refine x_iconst C (-1) dX8_measureSets_15 rfl ?_
    refine x_ixor C dX8_measureSets_16 ?_
    refine x_iand C dX8_measureSets_17 ?_
    refine x_join (fun J => ∀ q8 : xS, WO X Qf WW q8 30 [(0, .ref (xqa (xXE X).2.2 k0)), (1, .ref (xqa (xXE X).2.2 k1)), (2, iV t1.1)] [] (J q8)) ?_ ?_
    · intro q8
      refine x_inc C 2 (f := _) dX8_measureSets_30 rfl (by decide) (1) rfl (fun v9 => ?_)
      refine x_reL (L' := [(2, _), (0, _), (1, _)]) rfl ?_
      refine x_goto C 2 dX8_measureSets_33 rfl ?_
      refine x_pick [1, 2, 0] rfl ?_
      exact hr3 (v9, q8)
    · intro J6 hJ7
      refine x_if_ne C 30 rfl dX8_measureSets_18 rfl (fun c10 => x_on c10 ?_) (fun c10 => x_op c10 ?_)
      · refine x_pick [0, 1, 2] rfl ?_
        exact hJ7 t1.2
      · refine x_aload_n C 0 dX8_measureSets_21 rfl rfl ?_
        refine x_aload_n C 1 dX8_measureSets_22 rfl rfl ?_
        refine x_get (v := .ref (xqa (xXE X).2.2 (k1 + 39))) C 9 cls_X1 (at_X1 hk1) (by decide) wd369 rfl (xV_r (rt_X1_roads hk1 _) rfl) dX8_measureSets_23 ?_
        refine x_iload_n C 2 dX8_measureSets_26 rfl rfl ?_
        refine x_callV C (ct_X8_drive _ _ n k0 (k1 + 39) t1.1 t1.2 hk0 (rd_bk hk1)) mt_X8_drive vr_X8_drive wd784 cls_X8 (at_X8 hk0) rfl ⟨rfl, rfl, Nat.le_of_ble_eq_true rfl, Nat.le_of_ble_eq_true rfl⟩ rfl (by decide) dX8_measureSets_27 (kV (fun s11 => ?_))
        refine x_pick [0, 1, 2] rfl ?_
        exact hJ7 s11
theorem ct_X8_measureSets (l : Launch) (E : xE) (n : Nat) (k0 : Nat) (k1 : Nat) (σ : xS) (hk0 : isPl k0) (hk1 : isBk k1)  : xMet l E yX8_measureSets cX8_measureSets 3 none { frames := 3, cells := 0, slots := 0, locals := 74 } [.ref (xqa E.2.2 k0), .ref (xqa E.2.2 k1)] WW WW σ (xrV (m_X8_measureSets n k0 k1 σ)) := by
  refine xMet.of0 (by decide) (Nat.le_of_ble_eq_true rfl) rfl rfl (fun X hE C => ?_)
  subst hE
  exact xMap (fun q => (none, q)) (wk_X8_measureSets C (fun _ => rfl) hk0 hk1)
theorem mt_X8_measureSets : xMth yX8_measureSets cX8_measureSets 3 none 1 := ⟨wd783, wd61, ⟨by decide, by decide, rfl⟩⟩
theorem vr_X8_measureSets : xVir yX8_measureSets := ⟨wd782, wd18⟩
def m_J6_bitCount_0f7a4 (p1 : Int) : Option Int :=
  xlet (p1 - (zand (zushr p1 1) 1431655765)) fun v1 => xlet ((zand v1 858993459) + (zand (zushr v1 2) 858993459)) fun v2 => xlet (zand (v2 + (zushr v2 4)) 252645135) fun v3 => xlet (v3 + (zushr v3 8)) fun v4 => xlet (v4 + (zushr v4 16)) fun v5 => some (zand v5 63)
set_option maxHeartbeats 4000000 in
set_option maxRecDepth 100000 in
theorem wk_J6_bitCount_0f7a4 {X : xX} {Qf : Int → State → Prop} {p1 : Int} {σ : xS} (C : xCx X cJ6_bitCount_0f7a4 "java/lang/Integer" (some .int) { frames := 0, cells := 0, slots := 0, locals := 0 } 1) (hQ : ∀ v, Qf v = xQf X WW (some (iV v), σ))  : WO X Qf WW σ 0 [(0, iV p1)] [] (m_J6_bitCount_0f7a4 p1) := by
  unfold m_J6_bitCount_0f7a4
  refine x_iload_n C 0 dJ6_bitCount_0f7a4_0 rfl rfl ?_
  refine x_iload_n C 0 dJ6_bitCount_0f7a4_1 rfl rfl ?_
  refine x_iconst C (1) dJ6_bitCount_0f7a4_2 rfl ?_
  refine x_iushr C dJ6_bitCount_0f7a4_3 ?_
  refine x_ldcw C (1431655765) wd810 rfl dJ6_bitCount_0f7a4_4 ?_
  refine x_iand C dJ6_bitCount_0f7a4_7 ?_
  refine x_isub C dJ6_bitCount_0f7a4_8 ?_
  refine x_letI (fun v1 => ?_)
  refine x_istore_n (L' := [(0, _)]) C dJ6_bitCount_0f7a4_9 rfl (by decide) rfl ?_
  refine x_iload_n C 0 dJ6_bitCount_0f7a4_10 rfl rfl ?_
  refine x_ldcw C (858993459) wd811 rfl dJ6_bitCount_0f7a4_11 ?_
  refine x_iand C dJ6_bitCount_0f7a4_14 ?_
  refine x_iload_n C 0 dJ6_bitCount_0f7a4_15 rfl rfl ?_
  refine x_iconst C (2) dJ6_bitCount_0f7a4_16 rfl ?_
  refine x_iushr C dJ6_bitCount_0f7a4_17 ?_
  refine x_ldcw C (858993459) wd811 rfl dJ6_bitCount_0f7a4_18 ?_
  refine x_iand C dJ6_bitCount_0f7a4_21 ?_
  refine x_iadd C dJ6_bitCount_0f7a4_22 ?_
  refine x_letI (fun v2 => ?_)
  refine x_istore_n (L' := [(0, _)]) C dJ6_bitCount_0f7a4_23 rfl (by decide) rfl ?_
  refine x_iload_n C 0 dJ6_bitCount_0f7a4_24 rfl rfl ?_
  refine x_iload_n C 0 dJ6_bitCount_0f7a4_25 rfl rfl ?_
  refine x_iconst C (4) dJ6_bitCount_0f7a4_26 rfl ?_
  refine x_iushr C dJ6_bitCount_0f7a4_27 ?_
  refine x_iadd C dJ6_bitCount_0f7a4_28 ?_
  refine x_ldcw C (252645135) wd812 rfl dJ6_bitCount_0f7a4_29 ?_
  refine x_iand C dJ6_bitCount_0f7a4_32 ?_
  refine x_letI (fun v3 => ?_)
  refine x_istore_n (L' := [(0, _)]) C dJ6_bitCount_0f7a4_33 rfl (by decide) rfl ?_
  refine x_iload_n C 0 dJ6_bitCount_0f7a4_34 rfl rfl ?_
  refine x_iload_n C 0 dJ6_bitCount_0f7a4_35 rfl rfl ?_
  refine x_bipush C (8) dJ6_bitCount_0f7a4_36 rfl ?_
  refine x_iushr C dJ6_bitCount_0f7a4_38 ?_
  refine x_iadd C dJ6_bitCount_0f7a4_39 ?_
  refine x_letI (fun v4 => ?_)
  refine x_istore_n (L' := [(0, _)]) C dJ6_bitCount_0f7a4_40 rfl (by decide) rfl ?_
  refine x_iload_n C 0 dJ6_bitCount_0f7a4_41 rfl rfl ?_
  refine x_iload_n C 0 dJ6_bitCount_0f7a4_42 rfl rfl ?_
  refine x_bipush C (16) dJ6_bitCount_0f7a4_43 rfl ?_
  refine x_iushr C dJ6_bitCount_0f7a4_45 ?_
  refine x_iadd C dJ6_bitCount_0f7a4_46 ?_
  refine x_letI (fun v5 => ?_)
  refine x_istore_n (L' := [(0, _)]) C dJ6_bitCount_0f7a4_47 rfl (by decide) rfl ?_
  refine x_iload_n C 0 dJ6_bitCount_0f7a4_48 rfl rfl ?_
  refine x_bipush C (63) dJ6_bitCount_0f7a4_49 rfl ?_
  refine x_iand C dJ6_bitCount_0f7a4_51 ?_
  exact x_iretQ C (hQ _) rfl dJ6_bitCount_0f7a4_52
theorem ct_J6_bitCount_0f7a4 (l : Launch) (E : xE) (p1 : Int)  (σ : xS) : xMet l E yJ6_bitCount_0f7a4 cJ6_bitCount_0f7a4 1 (some .int) { frames := 0, cells := 0, slots := 0, locals := 0 } [iV p1] WW WW σ (xrI (m_J6_bitCount_0f7a4 p1) σ) := by
  refine xMet.of0 (by decide) (Nat.le_of_ble_eq_true rfl) rfl rfl (fun X hE C => ?_)
  subst hE
  exact xMap (fun v => (some (iV v), σ)) (wk_J6_bitCount_0f7a4 C (fun _ => rfl) )
theorem mt_J6_bitCount_0f7a4 : xMth yJ6_bitCount_0f7a4 cJ6_bitCount_0f7a4 1 (some .int) 1 := ⟨wd809, wd64, ⟨by decide, by decide, rfl⟩⟩
theorem st_J6_bitCount_0f7a4 : Cond.static yJ6_bitCount_0f7a4 ∈ GW := wd808
def m_X8_firstWay (n : Nat) (k0 : Nat) (k1 : Nat) (σ : xS) : Option (Int × xS) :=
  (m_J7_fill_53178 n (k0 + 8) 3 0 σ).bind fun s1 => (m_J7_fill_53178 n (k0 + 9) 7 0 s1).bind fun s2 => xck 0 3 <| xlet (xput s2 (k0 + 8) (0 : Int).toNat (s2 k0 3)) fun s3 => (m_X9_restOfRoute (k1 + 39) 7 (s3 k0 3) s3).bind fun v4 => if (zI v4) < 1000000 then loopF (fun rec7 (t6 : Int × Int) => (m_J6_bitCount_0f7a4 (s3 k0 3)).bind fun v9 => if (zI v9) ≤ (zI t6.2) then some (t6.1, s3) else xlet (t6.1 * (s3 k1 11)) fun v11 => xlet (t6.2 + 1) fun v12 => rec7 (v11, v12)) n (1, 0) else some (0, s3)
set_option maxHeartbeats 4000000 in
set_option maxRecDepth 100000 in
theorem wk_X8_firstWay {X : xX} {Qf : (Int × xS) → State → Prop} {n : Nat} {k0 : Nat} {k1 : Nat} {σ : xS} (C : xCx X cX8_firstWay "BakeryNight$Plan" (some .int) { frames := 1, cells := 0, slots := 0, locals := 23 } 4) (hQ : ∀ v τ, Qf (v, τ) = xQf X WW (some (iV v), τ)) (hk0 : isPl k0) (hk1 : isBk k1) : WO X Qf WW σ 0 [(0, .ref (xqa (xXE X).2.2 k0)), (1, .ref (xqa (xXE X).2.2 k1))] [] (m_X8_firstWay n k0 k1 σ) := by
  unfold m_X8_firstWay
  refine x_aload_n C 0 dX8_firstWay_0 rfl rfl ?_
  refine x_get (v := .ref (xqa (xXE X).2.2 (k0 + 8))) C 9 cls_X8 (at_X8 hk0) (by decide) wd528 rfl (xV_r (rt_X8_shopsOfVan hk0 _) rfl) dX8_firstWay_1 ?_
  refine x_iconst C (0) dX8_firstWay_4 rfl ?_
  refine x_callS C (ct_J7_fill_53178 _ _ n (k0 + 8) 3 0 σ (at_X8_shopsOfVan hk0)) mt_J7_fill_53178 st_J7_fill_53178 wd772 rfl ⟨rfl, rfl, Nat.le_of_ble_eq_true rfl, Nat.le_of_ble_eq_true rfl⟩ rfl (by decide) dX8_firstWay_5 (kV (fun s1 => ?_))
  refine x_aload_n C 0 dX8_firstWay_8 rfl rfl ?_
  refine x_get (v := .ref (xqa (xXE X).2.2 (k0 + 9))) C 10 cls_X8 (at_X8 hk0) (by decide) wd529 rfl (xV_r (rt_X8_vanOfShop hk0 _) rfl) dX8_firstWay_9 ?_
  refine x_iconst C (0) dX8_firstWay_12 rfl ?_
  refine x_callS C (ct_J7_fill_53178 _ _ n (k0 + 9) 7 0 s1 (at_X8_vanOfShop hk0)) mt_J7_fill_53178 st_J7_fill_53178 wd772 rfl ⟨rfl, rfl, Nat.le_of_ble_eq_true rfl, Nat.le_of_ble_eq_true rfl⟩ rfl (by decide) dX8_firstWay_13 (kV (fun s2 => ?_))
  refine x_aload_n C 0 dX8_firstWay_16 rfl rfl ?_
  refine x_get (v := .ref (xqa (xXE X).2.2 (k0 + 8))) C 9 cls_X8 (at_X8 hk0) (by decide) wd528 rfl (xV_r (rt_X8_shopsOfVan hk0 _) rfl) dX8_firstWay_17 ?_
  refine x_iconst C (0) dX8_firstWay_20 rfl ?_
  refine x_aload_n C 0 dX8_firstWay_21 rfl rfl ?_
  refine x_get (v := iV (s2 k0 3)) C 3 cls_X8 (at_X8 hk0) (by decide) wd522 rfl rfl dX8_firstWay_22 ?_
  refine x_iast C (at_X8_shopsOfVan hk0) (zIl _ rfl) dX8_firstWay_25 (fun _ => ?_)
  refine x_letS (fun s3 => ?_)
  refine x_aload_n C 1 dX8_firstWay_26 rfl rfl ?_
  refine x_get (v := .ref (xqa (xXE X).2.2 (k1 + 39))) C 9 cls_X1 (at_X1 hk1) (by decide) wd369 rfl (xV_r (rt_X1_roads hk1 _) rfl) dX8_firstWay_27 ?_
  refine x_bipush C (7) dX8_firstWay_30 rfl ?_
  refine x_aload_n C 0 dX8_firstWay_32 rfl rfl ?_
  refine x_get (v := iV (s3 k0 3)) C 3 cls_X8 (at_X8 hk0) (by decide) wd522 rfl rfl dX8_firstWay_33 ?_
  refine x_callV C (ct_X9_restOfRoute _ _ (k1 + 39) 7 (s3 k0 3) s3 (rd_bk hk1)) mt_X9_restOfRoute vr_X9_restOfRoute wd805 cls_X9 (at_X9 (rd_bk hk1)) rfl ⟨rfl, rfl, Nat.le_of_ble_eq_true rfl, Nat.le_of_ble_eq_true rfl⟩ rfl (by decide) dX8_firstWay_36 (kI (fun v4 => ?_))
  refine x_ldc C (1000000) wd806 rfl dX8_firstWay_39 ?_
  refine x_icmp_lt C 46 rfl (zIl _ rfl) dX8_firstWay_41 rfl (fun c5 => x_op c5 ?_) (fun c5 => x_on c5 ?_)
  · refine x_iconst C (1) dX8_firstWay_46 rfl ?_
    refine x_istore_n (L' := [(2, _), (0, _), (1, _)]) C dX8_firstWay_47 rfl (by decide) rfl ?_
    refine x_iconst C (0) dX8_firstWay_48 rfl ?_
    refine x_istore_n (L' := [(3, _), (2, _), (0, _), (1, _)]) C dX8_firstWay_49 rfl (by decide) rfl ?_
    refine x_pick [2, 3, 1, 0] rfl ?_
    refine x_loop (fun t6 : Int × Int => s3) (fun t6 : Int × Int => [(0, .ref (xqa (xXE X).2.2 k0)), (1, .ref (xqa (xXE X).2.2 k1)), (2, iV t6.1), (3, iV t6.2)]) (fun rec7 hr8 t6 => ?_) n (1, 0)
    refine x_iload_n C 3 dX8_firstWay_50 rfl rfl ?_
    refine x_aload_n C 0 dX8_firstWay_51 rfl rfl ?_
    refine x_get (v := iV (s3 k0 3)) C 3 cls_X8 (at_X8 hk0) (by decide) wd522 rfl rfl dX8_firstWay_52 ?_
    refine x_callS C (ct_J6_bitCount_0f7a4 _ _ (s3 k0 3) s3) mt_J6_bitCount_0f7a4 st_J6_bitCount_0f7a4 wd807 rfl ⟨rfl, rfl, Nat.le_of_ble_eq_true rfl, Nat.le_of_ble_eq_true rfl⟩ rfl (Nat.le_of_ble_eq_true rfl) dX8_firstWay_55 (kI (fun v9 => ?_))
    refine x_icmp_ge C 74 rfl rfl dX8_firstWay_58 rfl (fun c10 => x_op c10 ?_) (fun c10 => x_on c10 ?_)
    · refine x_iload_n C 2 dX8_firstWay_74 rfl rfl ?_
      exact x_iretQ C (hQ _ _) rfl dX8_firstWay_75
    · refine x_iload_n C 2 dX8_firstWay_61 rfl rfl ?_
      refine x_aload_n C 1 dX8_firstWay_62 rfl rfl ?_
      refine x_get (v := iV (s3 k1 11)) C 11 cls_X1 (at_X1 hk1) (by decide) wd375 rfl rfl dX8_firstWay_63 ?_
      refine x_imul C dX8_firstWay_66 ?_
      refine x_letI (fun v11 => ?_)
      refine x_istore_n (L' := [(2, _), (0, _), (1, _), (3, _)]) C dX8_firstWay_67 rfl (by decide) rfl ?_
      refine x_inc C 3 (f := _) dX8_firstWay_68 rfl (by decide) (1) rfl (fun v12 => ?_)
      refine x_reL (L' := [(3, _), (2, _), (0, _), (1, _)]) rfl ?_
      refine x_goto C 50 dX8_firstWay_71 rfl ?_
      refine x_pick [2, 3, 1, 0] rfl ?_
      exact hr8 (v11, v12)
  · refine x_iconst C (0) dX8_firstWay_44 rfl ?_
    exact x_iretQ C (hQ _ _) rfl dX8_firstWay_45
theorem ct_X8_firstWay (l : Launch) (E : xE) (n : Nat) (k0 : Nat) (k1 : Nat) (σ : xS) (hk0 : isPl k0) (hk1 : isBk k1)  : xMet l E yX8_firstWay cX8_firstWay 4 (some .int) { frames := 1, cells := 0, slots := 0, locals := 23 } [.ref (xqa E.2.2 k0), .ref (xqa E.2.2 k1)] WW WW σ (xrS (m_X8_firstWay n k0 k1 σ)) := by
  refine xMet.of0 (by decide) (Nat.le_of_ble_eq_true rfl) rfl rfl (fun X hE C => ?_)
  subst hE
  exact xMap (fun q => (some (iV q.1), q.2)) (wk_X8_firstWay C (fun _ _ => rfl) hk0 hk1)
theorem mt_X8_firstWay : xMth yX8_firstWay cX8_firstWay 4 (some .int) 1 := ⟨wd804, wd61, ⟨by decide, by decide, rfl⟩⟩
theorem vr_X8_firstWay : xVir yX8_firstWay := ⟨wd803, wd21⟩
def m_X8_canCarry (n : Nat) (k0 : Nat) (k1 : Nat) (σ : xS) : Option Int :=
  loopF (fun rec2 (t1 : Int) => if (zI (σ k1 11)) ≤ (zI t1) then some 1 else xck (zI t1) 3 <| xck (zI (σ (k0 + 8) (zI t1).toNat)) 128 <| xck (zI t1) 3 <| if (zI (σ (k0 + 4) (zI (σ (k0 + 8) (zI t1).toNat)).toNat)) ≤ (zI (σ (k1 + 38) (zI t1).toNat)) then xlet (t1 + 1) fun v6 => rec2 v6 else some 0) n 0
set_option maxHeartbeats 4000000 in
set_option maxRecDepth 100000 in
theorem wk_X8_canCarry {X : xX} {Qf : Int → State → Prop} {n : Nat} {k0 : Nat} {k1 : Nat} {σ : xS} (C : xCx X cX8_canCarry "BakeryNight$Plan" (some .boolean) { frames := 0, cells := 0, slots := 0, locals := 0 } 3) (hQ : ∀ v, Qf v = xQf X WW (some (iV v), σ)) (hk0 : isPl k0) (hk1 : isBk k1) : WO X Qf WW σ 0 [(0, .ref (xqa (xXE X).2.2 k0)), (1, .ref (xqa (xXE X).2.2 k1))] [] (m_X8_canCarry n k0 k1 σ) := by
  unfold m_X8_canCarry
  refine x_iconst C (0) dX8_canCarry_0 rfl ?_
  refine x_istore_n (L' := [(2, _), (0, _), (1, _)]) C dX8_canCarry_1 rfl (by decide) rfl ?_
  refine x_pick [1, 2, 0] rfl ?_
  refine x_loop (fun t1 : Int => σ) (fun t1 : Int => [(0, .ref (xqa (xXE X).2.2 k0)), (1, .ref (xqa (xXE X).2.2 k1)), (2, iV t1)]) (fun rec2 hr3 t1 => ?_) n 0
  refine x_iload_n C 2 dX8_canCarry_2 rfl rfl ?_
  refine x_aload_n C 1 dX8_canCarry_3 rfl rfl ?_
  refine x_get (v := iV (σ k1 11)) C 11 cls_X1 (at_X1 hk1) (by decide) wd375 rfl rfl dX8_canCarry_4 ?_
  refine x_icmp_ge C 38 rfl rfl dX8_canCarry_7 rfl (fun c4 => x_op c4 ?_) (fun c4 => x_on c4 ?_)
  · refine x_iconst C (1) dX8_canCarry_38 rfl ?_
    exact x_zretQ C (hQ _) rfl (Or.inr rfl) dX8_canCarry_39
  · refine x_aload_n C 0 dX8_canCarry_10 rfl rfl ?_
    refine x_get (v := .ref (xqa (xXE X).2.2 (k0 + 4))) C 5 cls_X8 (at_X8 hk0) (by decide) wd524 rfl (xV_r (rt_X8_setLoad hk0 _) rfl) dX8_canCarry_11 ?_
    refine x_aload_n C 0 dX8_canCarry_14 rfl rfl ?_
    refine x_get (v := .ref (xqa (xXE X).2.2 (k0 + 8))) C 9 cls_X8 (at_X8 hk0) (by decide) wd528 rfl (xV_r (rt_X8_shopsOfVan hk0 _) rfl) dX8_canCarry_15 ?_
    refine x_iload_n C 2 dX8_canCarry_18 rfl rfl ?_
    refine x_iald C (at_X8_shopsOfVan hk0) rfl dX8_canCarry_19 (fun _ => ?_)
    refine x_iald C (at_X8_setLoad hk0) rfl dX8_canCarry_20 (fun _ => ?_)
    refine x_aload_n C 1 dX8_canCarry_21 rfl rfl ?_
    refine x_get (v := .ref (xqa (xXE X).2.2 (k1 + 38))) C 10 cls_X1 (at_X1 hk1) (by decide) wd372 rfl (xV_r (rt_X1_vanLoads hk1 _) rfl) dX8_canCarry_22 ?_
    refine x_iload_n C 2 dX8_canCarry_25 rfl rfl ?_
    refine x_iald C (at_X1_vanLoads hk1) rfl dX8_canCarry_26 (fun _ => ?_)
    refine x_icmp_le C 32 rfl rfl dX8_canCarry_27 rfl (fun c5 => x_op c5 ?_) (fun c5 => x_on c5 ?_)
    · refine x_inc C 2 (f := _) dX8_canCarry_32 rfl (by decide) (1) rfl (fun v6 => ?_)
      refine x_reL (L' := [(2, _), (0, _), (1, _)]) rfl ?_
      refine x_goto C 2 dX8_canCarry_35 rfl ?_
      refine x_pick [1, 2, 0] rfl ?_
      exact hr3 v6
    · refine x_iconst C (0) dX8_canCarry_30 rfl ?_
      exact x_zretQ C (hQ _) rfl (Or.inl rfl) dX8_canCarry_31
theorem ct_X8_canCarry (l : Launch) (E : xE) (n : Nat) (k0 : Nat) (k1 : Nat) (σ : xS) (hk0 : isPl k0) (hk1 : isBk k1)  : xMet l E yX8_canCarry cX8_canCarry 3 (some .boolean) { frames := 0, cells := 0, slots := 0, locals := 0 } [.ref (xqa E.2.2 k0), .ref (xqa E.2.2 k1)] WW WW σ (xrI (m_X8_canCarry n k0 k1 σ) σ) := by
  refine xMet.of0 (by decide) (Nat.le_of_ble_eq_true rfl) rfl rfl (fun X hE C => ?_)
  subst hE
  exact xMap (fun v => (some (iV v), σ)) (wk_X8_canCarry C (fun _ => rfl) hk0 hk1)
theorem mt_X8_canCarry : xMth yX8_canCarry cX8_canCarry 3 (some .boolean) 1 := ⟨wd816, wd61, ⟨by decide, by decide, rfl⟩⟩
theorem vr_X8_canCarry : xVir yX8_canCarry := ⟨wd815, wd22⟩
def m_X8_nextWay (n : Nat) (k0 : Nat) (k1 : Nat) (σ : xS) : Option xS :=
  loopF (fun rec2 (t1 : Int × xS) => if (zI t1.1) < 0 then some t1.2 else xlet (zshl 1 t1.1) fun v5 => xj (fun (q8 : xS) => xlet (t1.1 + (-1)) fun v9 => rec2 (v9, q8)) fun J6 => if (zI (zand (t1.2 k0 3) v5)) = 0 then J6 t1.2 else xck (zI t1.1) 7 <| xj (fun (q13 : Int) => xck (zI t1.1) 7 <| xck (zI (t1.2 (k0 + 9) (zI t1.1).toNat)) 3 <| xck (zI (t1.2 (k0 + 9) (zI t1.1).toNat)) 3 <| xlet (xput t1.2 (k0 + 8) (zI (t1.2 (k0 + 9) (zI t1.1).toNat)).toNat (zand (t1.2 (k0 + 8) (zI (t1.2 (k0 + 9) (zI t1.1).toNat)).toNat) (zxor v5 (-1)))) fun s14 => xck (zI q13) 3 <| xck (zI q13) 3 <| xlet (xput s14 (k0 + 8) (zI q13).toNat (zor (s14 (k0 + 8) (zI q13).toNat) v5)) fun s15 => xck (zI t1.1) 7 <| xlet (xput s15 (k0 + 9) (zI t1.1).toNat q13) fun s16 => if (zI q13) = 0 then J6 s16 else some s16) fun J11 => if (zI (t1.2 k1 11)) ≤ (zI ((t1.2 (k0 + 9) (zI t1.1).toNat) + 1)) then J11 0 else xck (zI t1.1) 7 <| J11 ((t1.2 (k0 + 9) (zI t1.1).toNat) + 1)) n (6, σ)
set_option maxHeartbeats 4000000 in
set_option maxRecDepth 100000 in
theorem wk_X8_nextWay {X : xX} {Qf : xS → State → Prop} {n : Nat} {k0 : Nat} {k1 : Nat} {σ : xS} (C : xCx X cX8_nextWay "BakeryNight$Plan" none { frames := 0, cells := 0, slots := 0, locals := 0 } 5) (hQ : ∀ τ, Qf τ = xQf X WW (none, τ)) (hk0 : isPl k0) (hk1 : isBk k1) : WO X Qf WW σ 0 [(0, .ref (xqa (xXE X).2.2 k0)), (1, .ref (xqa (xXE X).2.2 k1))] [] (m_X8_nextWay n k0 k1 σ) := by
  unfold m_X8_nextWay
  refine x_bipush C (6) dX8_nextWay_0 rfl ?_
  refine x_istore_n (L' := [(2, _), (0, _), (1, _)]) C dX8_nextWay_2 rfl (by decide) rfl ?_
  refine x_pick [1, 2, 0] rfl ?_
  refine x_loop (fun t1 : Int × xS => t1.2) (fun t1 : Int × xS => [(0, .ref (xqa (xXE X).2.2 k0)), (1, .ref (xqa (xXE X).2.2 k1)), (2, iV t1.1)]) (fun rec2 hr3 t1 => ?_) n (6, σ)
  refine x_iload_n C 2 dX8_nextWay_3 rfl rfl ?_
  refine x_if_lt C 97 rfl dX8_nextWay_4 rfl (fun c4 => x_op c4 ?_) (fun c4 => x_on c4 ?_)
  · exact x_vretQ C (hQ _) rfl dX8_nextWay_97
  · refine x_iconst C (1) dX8_nextWay_7 rfl ?_
    refine x_iload_n C 2 dX8_nextWay_8 rfl rfl ?_
    refine x_ishl C dX8_nextWay_9 ?_
    refine x_letI (fun v5 => ?_)
    refine x_istore_n (L' := [(3, _), (0, _), (1, _), (2, _)]) C dX8_nextWay_10 rfl (by decide) rfl ?_
    refine x_aload_n C 1 dX8_nextWay_11 rfl rfl ?_
    refine x_get (v := iV (t1.2 k0 3)) C 3 cls_X8 (at_X8 hk0) (by decide) wd522 rfl rfl dX8_nextWay_12 ?_
    refine x_iload_n C 0 dX8_nextWay_15 rfl rfl ?_
    refine x_iand C dX8_nextWay_16 ?_
    refine x_join (fun J => ∀ q8 : xS, WO X Qf WW q8 91 [(0, .ref (xqa (xXE X).2.2 k0)), (1, .ref (xqa (xXE X).2.2 k1)), (2, iV t1.1)] [] (J q8)) ?_ ?_
    · intro q8
      refine x_inc C 2 (f := _) dX8_nextWay_91 rfl (by decide) (-1) rfl (fun v9 => ?_)
      refine x_reL (L' := [(2, _), (0, _), (1, _)]) rfl ?_
      refine x_goto C 3 dX8_nextWay_94 rfl ?_
      refine x_pick [1, 2, 0] rfl ?_
      exact hr3 (v9, q8)
    · intro J6 hJ7
      refine x_if_eq C 91 rfl dX8_nextWay_17 rfl (fun c10 => x_op c10 ?_) (fun c10 => x_on c10 ?_)
      · refine x_pick [1, 2, 3] rfl ?_
        exact hJ7 t1.2
      · refine x_aload_n C 1 dX8_nextWay_20 rfl rfl ?_
        refine x_get (v := .ref (xqa (xXE X).2.2 (k0 + 9))) C 10 cls_X8 (at_X8 hk0) (by decide) wd529 rfl (xV_r (rt_X8_vanOfShop hk0 _) rfl) dX8_nextWay_21 ?_
        refine x_iload_n C 3 dX8_nextWay_24 rfl rfl ?_
        refine x_iald C (at_X8_vanOfShop hk0) rfl dX8_nextWay_25 (fun _ => ?_)
        refine x_iconst C (1) dX8_nextWay_26 rfl ?_
        refine x_iadd C dX8_nextWay_27 ?_
        refine x_aload_n C 2 dX8_nextWay_28 rfl rfl ?_
        refine x_get (v := iV (t1.2 k1 11)) C 11 cls_X1 (at_X1 hk1) (by decide) wd375 rfl rfl dX8_nextWay_29 ?_
        refine x_join (fun J => ∀ q13 : Int, WO X Qf WW t1.2 47 [(0, .ref (xqa (xXE X).2.2 k0)), (1, .ref (xqa (xXE X).2.2 k1)), (2, iV t1.1), (3, iV v5)] [iV q13] (J q13)) ?_ ?_
        · intro q13
          refine x_istore (L' := [(4, _), (0, _), (1, _), (2, _), (3, _)]) C dX8_nextWay_47 (by decide) rfl ?_
          refine x_aload_n C 1 dX8_nextWay_49 rfl rfl ?_
          refine x_get (v := .ref (xqa (xXE X).2.2 (k0 + 8))) C 9 cls_X8 (at_X8 hk0) (by decide) wd528 rfl (xV_r (rt_X8_shopsOfVan hk0 _) rfl) dX8_nextWay_50 ?_
          refine x_aload_n C 1 dX8_nextWay_53 rfl rfl ?_
          refine x_get (v := .ref (xqa (xXE X).2.2 (k0 + 9))) C 10 cls_X8 (at_X8 hk0) (by decide) wd529 rfl (xV_r (rt_X8_vanOfShop hk0 _) rfl) dX8_nextWay_54 ?_
          refine x_iload_n C 3 dX8_nextWay_57 rfl rfl ?_
          refine x_iald C (at_X8_vanOfShop hk0) rfl dX8_nextWay_58 (fun _ => ?_)
          refine x_dup2 C dX8_nextWay_59 rfl rfl ?_
          refine x_iald C (at_X8_shopsOfVan hk0) rfl dX8_nextWay_60 (fun _ => ?_)
          refine x_iload_n C 4 dX8_nextWay_61 rfl rfl ?_
          refine x_iconst C (-1) dX8_nextWay_62 rfl ?_
          refine x_ixor C dX8_nextWay_63 ?_
          refine x_iand C dX8_nextWay_64 ?_
          refine x_iast C (at_X8_shopsOfVan hk0) rfl dX8_nextWay_65 (fun _ => ?_)
          refine x_letS (fun s14 => ?_)
          refine x_aload_n C 1 dX8_nextWay_66 rfl rfl ?_
          refine x_get (v := .ref (xqa (xXE X).2.2 (k0 + 8))) C 9 cls_X8 (at_X8 hk0) (by decide) wd528 rfl (xV_r (rt_X8_shopsOfVan hk0 _) rfl) dX8_nextWay_67 ?_
          refine x_iload C 0 dX8_nextWay_70 rfl ?_
          refine x_dup2 C dX8_nextWay_72 rfl rfl ?_
          refine x_iald C (at_X8_shopsOfVan hk0) rfl dX8_nextWay_73 (fun _ => ?_)
          refine x_iload_n C 4 dX8_nextWay_74 rfl rfl ?_
          refine x_ior C dX8_nextWay_75 ?_
          refine x_iast C (at_X8_shopsOfVan hk0) rfl dX8_nextWay_76 (fun _ => ?_)
          refine x_letS (fun s15 => ?_)
          refine x_aload_n C 1 dX8_nextWay_77 rfl rfl ?_
          refine x_get (v := .ref (xqa (xXE X).2.2 (k0 + 9))) C 10 cls_X8 (at_X8 hk0) (by decide) wd529 rfl (xV_r (rt_X8_vanOfShop hk0 _) rfl) dX8_nextWay_78 ?_
          refine x_iload_n C 3 dX8_nextWay_81 rfl rfl ?_
          refine x_iload C 0 dX8_nextWay_82 rfl ?_
          refine x_iast C (at_X8_vanOfShop hk0) rfl dX8_nextWay_84 (fun _ => ?_)
          refine x_letS (fun s16 => ?_)
          refine x_iload C 0 dX8_nextWay_85 rfl ?_
          refine x_if_eq C 91 rfl dX8_nextWay_87 rfl (fun c17 => x_op c17 ?_) (fun c17 => x_on c17 ?_)
          · refine x_pick [1, 2, 3] rfl ?_
            exact hJ7 s16
          · exact x_vretQ C (hQ _) rfl dX8_nextWay_90
        · intro J11 hJ12
          refine x_icmp_ge C 46 rfl rfl dX8_nextWay_32 rfl (fun c18 => x_op c18 ?_) (fun c18 => x_on c18 ?_)
          · refine x_iconst C (0) dX8_nextWay_46 rfl ?_
            refine x_pick [1, 2, 3, 0] rfl ?_
            exact hJ12 0
          · refine x_aload_n C 1 dX8_nextWay_35 rfl rfl ?_
            refine x_get (v := .ref (xqa (xXE X).2.2 (k0 + 9))) C 10 cls_X8 (at_X8 hk0) (by decide) wd529 rfl (xV_r (rt_X8_vanOfShop hk0 _) rfl) dX8_nextWay_36 ?_
            refine x_iload_n C 3 dX8_nextWay_39 rfl rfl ?_
            refine x_iald C (at_X8_vanOfShop hk0) rfl dX8_nextWay_40 (fun _ => ?_)
            refine x_iconst C (1) dX8_nextWay_41 rfl ?_
            refine x_iadd C dX8_nextWay_42 ?_
            refine x_goto C 47 dX8_nextWay_43 rfl ?_
            refine x_pick [1, 2, 3, 0] rfl ?_
            exact hJ12 ((t1.2 (k0 + 9) (zI t1.1).toNat) + 1)
theorem ct_X8_nextWay (l : Launch) (E : xE) (n : Nat) (k0 : Nat) (k1 : Nat) (σ : xS) (hk0 : isPl k0) (hk1 : isBk k1)  : xMet l E yX8_nextWay cX8_nextWay 5 none { frames := 0, cells := 0, slots := 0, locals := 0 } [.ref (xqa E.2.2 k0), .ref (xqa E.2.2 k1)] WW WW σ (xrV (m_X8_nextWay n k0 k1 σ)) := by
  refine xMet.of0 (by decide) (Nat.le_of_ble_eq_true rfl) rfl rfl (fun X hE C => ?_)
  subst hE
  exact xMap (fun q => (none, q)) (wk_X8_nextWay C (fun _ => rfl) hk0 hk1)
theorem mt_X8_nextWay : xMth yX8_nextWay cX8_nextWay 5 none 1 := ⟨wd821, wd61, ⟨by decide, by decide, rfl⟩⟩
theorem vr_X8_nextWay : xVir yX8_nextWay := ⟨wd820, wd23⟩
def m_X8_choose (n : Nat) (k0 : Nat) (k1 : Nat) (σ : xS) : Option xS :=
  xlet (xput σ k0 11 0) fun s1 => (m_X8_measureSets n k0 k1 s1).bind fun s2 => xbS (m_X8_firstWay n k0 k1 s2) fun v4 s3 => loopF (fun rec6 (t5 : Int × Int × xS) => if (zI v4) ≤ (zI t5.2.1) then loopF (fun rec10 (t9 : Int × xS) => xj (fun (q14 : Unit) => some t9.2) fun J12 => if (zI (t9.2 k1 11)) ≤ (zI t9.1) then J12 () else if (zI (t9.2 k0 11)) = 0 then J12 () else xck (zI t9.1) 3 <| (m_X8_drive n k0 (k1 + 39) (t9.2 (k0 + 10) (zI t9.1).toNat) t9.2).bind fun s17 => xlet (t9.1 + 1) fun v18 => rec10 (v18, s17)) n (0, t5.2.2) else (m_X8_canCarry n k0 k1 t5.2.2).bind fun v19 => xj (fun (q22 : Int × xS) => (m_X8_nextWay n k0 k1 q22.2).bind fun s23 => xlet (t5.2.1 + 1) fun v24 => rec6 (q22.1, v24, s23)) fun J20 => if (zI v19) = 0 then J20 (t5.1, t5.2.2) else loopF (fun rec27 (t26 : Int × Int × Int) => if (zI (t5.2.2 k1 11)) ≤ (zI t26.2.2) then xj (fun (q33 : Unit) => xlet (xput t5.2.2 k0 11 1) fun s34 => xlet (xput s34 k0 12 t26.1) fun s35 => xcc 0 0 3 3 3 <| xlet (xcpy s35 (k0 + 8) (k0 + 10) 0 0 3) fun s36 => J20 (t26.2.1, s36)) fun J31 => if (zI (t5.2.2 k0 11)) = 0 then J31 () else if (zI t26.1) < (zI (t5.2.2 k0 12)) then J31 () else if (zI t26.1) = (zI (t5.2.2 k0 12)) then if (zI t5.1) ≤ (zI t26.2.1) then J20 (t5.1, t5.2.2) else J31 () else J20 (t5.1, t5.2.2) else xck (zI t26.2.2) 3 <| xck (zI (t5.2.2 (k0 + 8) (zI t26.2.2).toNat)) 128 <| xlet (t26.1 + (t5.2.2 (k0 + 5) (zI (t5.2.2 (k0 + 8) (zI t26.2.2).toNat)).toNat)) fun v41 => xck (zI t26.2.2) 3 <| xck (zI (t5.2.2 (k0 + 8) (zI t26.2.2).toNat)) 128 <| xlet (t26.2.1 + (t5.2.2 (k0 + 6) (zI (t5.2.2 (k0 + 8) (zI t26.2.2).toNat)).toNat)) fun v42 => xlet (t26.2.2 + 1) fun v43 => rec27 (v41, v42, v43)) n (0, 0, 0)) n (0, 0, s3)
set_option maxHeartbeats 4000000 in
set_option maxRecDepth 100000 in
theorem wk_X8_choose {X : xX} {Qf : xS → State → Prop} {n : Nat} {k0 : Nat} {k1 : Nat} {σ : xS} (C : xCx X cX8_choose "BakeryNight$Plan" none { frames := 4, cells := 0, slots := 0, locals := 96 } 8) (hQ : ∀ τ, Qf τ = xQf X WW (none, τ)) (hk0 : isPl k0) (hk1 : isBk k1) : WO X Qf WW σ 0 [(0, .ref (xqa (xXE X).2.2 k0)), (1, .ref (xqa (xXE X).2.2 k1))] [] (m_X8_choose n k0 k1 σ) := by
  unfold m_X8_choose
  refine x_aload_n C 0 dX8_choose_0 rfl rfl ?_
  refine x_iconst C (0) dX8_choose_1 rfl ?_
  refine x_put C 11 0 cls_X8 (at_X8 hk0) (by decide) wd530 rfl rfl (xnb (Or.inl rfl)) (xfb (Or.inl rfl)) (xV_pI rfl) dX8_choose_2 ?_
  refine x_letS (fun s1 => ?_)
  refine x_iconst C (0) dX8_choose_5 rfl ?_
  refine x_istore_n (L' := [(2, _), (0, _), (1, _)]) C dX8_choose_6 rfl (by decide) rfl ?_
  refine x_aload_n C 1 dX8_choose_7 rfl rfl ?_
  refine x_aload_n C 2 dX8_choose_8 rfl rfl ?_
  refine x_callV C (ct_X8_measureSets _ _ n k0 k1 s1 hk0 hk1) mt_X8_measureSets vr_X8_measureSets wd780 cls_X8 (at_X8 hk0) rfl ⟨rfl, rfl, Nat.le_of_ble_eq_true rfl, Nat.le_of_ble_eq_true rfl⟩ rfl (by decide) dX8_choose_9 (kV (fun s2 => ?_))
  refine x_aload_n C 1 dX8_choose_12 rfl rfl ?_
  refine x_aload_n C 2 dX8_choose_13 rfl rfl ?_
  refine x_callV C (ct_X8_firstWay _ _ n k0 k1 s2 hk0 hk1) mt_X8_firstWay vr_X8_firstWay wd801 cls_X8 (at_X8 hk0) rfl ⟨rfl, rfl, Nat.le_of_ble_eq_true rfl, Nat.le_of_ble_eq_true rfl⟩ rfl (by decide) dX8_choose_14 (kS (fun v4 s3 => ?_))
  refine x_istore_n (L' := [(3, _), (2, _), (0, _), (1, _)]) C dX8_choose_17 rfl (by decide) rfl ?_
  refine x_iconst C (0) dX8_choose_18 rfl ?_
  refine x_istore (L' := [(4, _), (3, _), (2, _), (0, _), (1, _)]) C dX8_choose_19 (by decide) rfl ?_
  refine x_pick [3, 4, 2, 1, 0] rfl ?_
  refine x_loop (fun t5 : Int × Int × xS => t5.2.2) (fun t5 : Int × Int × xS => [(0, .ref (xqa (xXE X).2.2 k0)), (1, .ref (xqa (xXE X).2.2 k1)), (2, iV t5.1), (3, iV v4), (4, iV t5.2.1)]) (fun rec6 hr7 t5 => ?_) n (0, 0, s3)
  refine x_iload C 4 dX8_choose_21 rfl ?_
  refine x_iload_n C 3 dX8_choose_23 rfl rfl ?_
  refine x_icmp_ge C 167 rfl rfl dX8_choose_24 rfl (fun c8 => x_op c8 ?_) (fun c8 => x_on c8 ?_)
  · refine x_iconst C (0) dX8_choose_167 rfl ?_
    refine x_istore (L' := [(4, _), (0, _), (1, _), (2, _), (3, _)]) C dX8_choose_168 (by decide) rfl ?_
    refine x_pick [1, 2, 0] rfl ?_
    refine x_loop (fun t9 : Int × xS => t9.2) (fun t9 : Int × xS => [(0, .ref (xqa (xXE X).2.2 k0)), (1, .ref (xqa (xXE X).2.2 k1)), (4, iV t9.1)]) (fun rec10 hr11 t9 => ?_) n (0, t5.2.2)
    refine x_iload C 2 dX8_choose_170 rfl ?_
    refine x_aload_n C 1 dX8_choose_172 rfl rfl ?_
    refine x_get (v := iV (t9.2 k1 11)) C 11 cls_X1 (at_X1 hk1) (by decide) wd375 rfl rfl dX8_choose_173 ?_
    refine x_join (fun J => ∀ q14 : Unit, WO X Qf WW t9.2 207 [] [] (J q14)) ?_ ?_
    · intro q14
      exact x_vretQ C (hQ _) rfl dX8_choose_207
    · intro J12 hJ13
      refine x_icmp_ge C 207 rfl rfl dX8_choose_176 rfl (fun c15 => x_op c15 ?_) (fun c15 => x_on c15 ?_)
      · refine x_pick [] rfl ?_
        exact hJ13 ()
      · refine x_aload_n C 0 dX8_choose_179 rfl rfl ?_
        refine x_get (v := iV (t9.2 k0 11)) C 11 cls_X8 (at_X8 hk0) (by decide) wd530 rfl rfl dX8_choose_180 ?_
        refine x_if_eq C 207 rfl dX8_choose_183 rfl (fun c16 => x_op c16 ?_) (fun c16 => x_on c16 ?_)
        · refine x_pick [] rfl ?_
          exact hJ13 ()
        · refine x_aload_n C 0 dX8_choose_186 rfl rfl ?_
          refine x_aload_n C 1 dX8_choose_187 rfl rfl ?_
          refine x_get (v := .ref (xqa (xXE X).2.2 (k1 + 39))) C 9 cls_X1 (at_X1 hk1) (by decide) wd369 rfl (xV_r (rt_X1_roads hk1 _) rfl) dX8_choose_188 ?_
          refine x_aload_n C 0 dX8_choose_191 rfl rfl ?_
          refine x_get (v := .ref (xqa (xXE X).2.2 (k0 + 10))) C 13 cls_X8 (at_X8 hk0) (by decide) wd534 rfl (xV_r (rt_X8_bestShops hk0 _) rfl) dX8_choose_192 ?_
          refine x_iload C 2 dX8_choose_195 rfl ?_
          refine x_iald C (at_X8_bestShops hk0) rfl dX8_choose_197 (fun _ => ?_)
          refine x_callV C (ct_X8_drive _ _ n k0 (k1 + 39) (t9.2 (k0 + 10) (zI t9.1).toNat) t9.2 hk0 (rd_bk hk1)) mt_X8_drive vr_X8_drive wd784 cls_X8 (at_X8 hk0) rfl ⟨rfl, rfl, Nat.le_of_ble_eq_true rfl, Nat.le_of_ble_eq_true rfl⟩ rfl (by decide) dX8_choose_198 (kV (fun s17 => ?_))
          refine x_inc C 2 (f := _) dX8_choose_201 rfl (by decide) (1) rfl (fun v18 => ?_)
          refine x_reL (L' := [(4, _), (0, _), (1, _)]) rfl ?_
          refine x_goto C 170 dX8_choose_204 rfl ?_
          refine x_pick [1, 2, 0] rfl ?_
          exact hr11 (v18, s17)
  · refine x_aload_n C 0 dX8_choose_27 rfl rfl ?_
    refine x_aload_n C 1 dX8_choose_28 rfl rfl ?_
    refine x_callV C (ct_X8_canCarry _ _ n k0 k1 t5.2.2 hk0 hk1) mt_X8_canCarry vr_X8_canCarry wd813 cls_X8 (at_X8 hk0) rfl ⟨rfl, rfl, Nat.le_of_ble_eq_true rfl, Nat.le_of_ble_eq_true rfl⟩ rfl (by decide) dX8_choose_29 (kI (fun v19 => ?_))
    refine x_join (fun J => ∀ q22 : Int × xS, WO X Qf WW q22.2 156 [(0, .ref (xqa (xXE X).2.2 k0)), (1, .ref (xqa (xXE X).2.2 k1)), (2, iV q22.1), (3, iV v4), (4, iV t5.2.1)] [] (J q22)) ?_ ?_
    · intro q22
      refine x_aload_n C 0 dX8_choose_156 rfl rfl ?_
      refine x_aload_n C 1 dX8_choose_157 rfl rfl ?_
      refine x_callV C (ct_X8_nextWay _ _ n k0 k1 q22.2 hk0 hk1) mt_X8_nextWay vr_X8_nextWay wd818 cls_X8 (at_X8 hk0) rfl ⟨rfl, rfl, Nat.le_of_ble_eq_true rfl, Nat.le_of_ble_eq_true rfl⟩ rfl (by decide) dX8_choose_158 (kV (fun s23 => ?_))
      refine x_inc C 4 (f := _) dX8_choose_161 rfl (by decide) (1) rfl (fun v24 => ?_)
      refine x_reL (L' := [(4, _), (0, _), (1, _), (2, _), (3, _)]) rfl ?_
      refine x_goto C 21 dX8_choose_164 rfl ?_
      refine x_pick [1, 2, 3, 4, 0] rfl ?_
      exact hr7 (q22.1, v24, s23)
    · intro J20 hJ21
      refine x_if_eq C 156 rfl dX8_choose_32 rfl (fun c25 => x_op c25 ?_) (fun c25 => x_on c25 ?_)
      · refine x_pick [0, 1, 2, 3, 4] rfl ?_
        exact hJ21 (t5.1, t5.2.2)
      · refine x_iconst C (0) dX8_choose_35 rfl ?_
        refine x_istore (L' := [(5, _), (0, _), (1, _), (2, _), (3, _), (4, _)]) C dX8_choose_36 (by decide) rfl ?_
        refine x_iconst C (0) dX8_choose_38 rfl ?_
        refine x_istore (L' := [(6, _), (5, _), (0, _), (1, _), (2, _), (3, _), (4, _)]) C dX8_choose_39 (by decide) rfl ?_
        refine x_iconst C (0) dX8_choose_41 rfl ?_
        refine x_istore (L' := [(7, _), (6, _), (5, _), (0, _), (1, _), (2, _), (3, _), (4, _)]) C dX8_choose_42 (by decide) rfl ?_
        refine x_pick [3, 4, 5, 6, 7, 2, 1, 0] rfl ?_
        refine x_loop (fun t26 : Int × Int × Int => t5.2.2) (fun t26 : Int × Int × Int => [(0, .ref (xqa (xXE X).2.2 k0)), (1, .ref (xqa (xXE X).2.2 k1)), (2, iV t5.1), (3, iV v4), (4, iV t5.2.1), (5, iV t26.1), (6, iV t26.2.1), (7, iV t26.2.2)]) (fun rec27 hr28 t26 => ?_) n (0, 0, 0)
        refine x_iload C 7 dX8_choose_44 rfl ?_
        refine x_aload_n C 1 dX8_choose_46 rfl rfl ?_
        refine x_get (v := iV (t5.2.2 k1 11)) C 11 cls_X1 (at_X1 hk1) (by decide) wd375 rfl rfl dX8_choose_47 ?_
        refine x_icmp_ge C 93 rfl rfl dX8_choose_50 rfl (fun c29 => x_op c29 ?_) (fun c29 => x_on c29 ?_)
        · refine x_aload_n C 0 dX8_choose_93 rfl rfl ?_
          refine x_get (v := iV (t5.2.2 k0 11)) C 11 cls_X8 (at_X8 hk0) (by decide) wd530 rfl rfl dX8_choose_94 ?_
          refine x_join (fun J => ∀ q33 : Unit, WO X Qf WW t5.2.2 124 [(0, .ref (xqa (xXE X).2.2 k0)), (1, .ref (xqa (xXE X).2.2 k1)), (3, iV v4), (4, iV t5.2.1), (5, iV t26.1), (6, iV t26.2.1)] [] (J q33)) ?_ ?_
          · intro q33
            refine x_aload_n C 0 dX8_choose_124 rfl rfl ?_
            refine x_iconst C (1) dX8_choose_125 rfl ?_
            refine x_put C 11 1 cls_X8 (at_X8 hk0) (by decide) wd530 rfl rfl (xnb (Or.inr rfl)) (xfb (Or.inr rfl)) (xV_pI rfl) dX8_choose_126 ?_
            refine x_letS (fun s34 => ?_)
            refine x_aload_n C 0 dX8_choose_129 rfl rfl ?_
            refine x_iload C 4 dX8_choose_130 rfl ?_
            refine x_put C 12 t26.1 cls_X8 (at_X8 hk0) (by decide) wd532 rfl rfl rfl rfl (xV_pI rfl) dX8_choose_132 ?_
            refine x_letS (fun s35 => ?_)
            refine x_iload C 5 dX8_choose_135 rfl ?_
            refine x_istore_n (L' := [(2, _), (0, _), (1, _), (3, _), (4, _), (5, _), (6, _)]) C dX8_choose_137 rfl (by decide) rfl ?_
            refine x_aload_n C 1 dX8_choose_138 rfl rfl ?_
            refine x_get (v := .ref (xqa (xXE X).2.2 (k0 + 8))) C 9 cls_X8 (at_X8 hk0) (by decide) wd528 rfl (xV_r (rt_X8_shopsOfVan hk0 _) rfl) dX8_choose_139 ?_
            refine x_iconst C (0) dX8_choose_142 rfl ?_
            refine x_aload_n C 1 dX8_choose_143 rfl rfl ?_
            refine x_get (v := .ref (xqa (xXE X).2.2 (k0 + 10))) C 13 cls_X8 (at_X8 hk0) (by decide) wd534 rfl (xV_r (rt_X8_bestShops hk0 _) rfl) dX8_choose_144 ?_
            refine x_iconst C (0) dX8_choose_147 rfl ?_
            refine x_aload_n C 1 dX8_choose_148 rfl rfl ?_
            refine x_get (v := .ref (xqa (xXE X).2.2 (k0 + 10))) C 13 cls_X8 (at_X8 hk0) (by decide) wd534 rfl (xV_r (rt_X8_bestShops hk0 _) rfl) dX8_choose_149 ?_
            refine x_alen C 3 (at_X8_bestShops hk0) (Nat.le_of_ble_eq_true rfl) rfl dX8_choose_152 ?_
            refine x_copy C (at_X8_shopsOfVan hk0) (at_X8_bestShops hk0) (zIl _ rfl) (zIl _ rfl) (zIl _ rfl) wd817 wd723 wd722 wd62 (Nat.le_of_ble_eq_true rfl) (Nat.le_of_ble_eq_true rfl) dX8_choose_153 (fun s36 => ?_)
            refine x_pick [1, 2, 0, 3, 4] rfl ?_
            exact hJ21 (t26.2.1, s36)
          · intro J31 hJ32
            refine x_if_eq C 124 rfl dX8_choose_97 rfl (fun c37 => x_op c37 ?_) (fun c37 => x_on c37 ?_)
            · refine x_pick [0, 1, 3, 4, 5, 6] rfl ?_
              exact hJ32 ()
            · refine x_iload C 5 dX8_choose_100 rfl ?_
              refine x_aload_n C 0 dX8_choose_102 rfl rfl ?_
              refine x_get (v := iV (t5.2.2 k0 12)) C 12 cls_X8 (at_X8 hk0) (by decide) wd532 rfl rfl dX8_choose_103 ?_
              refine x_icmp_lt C 124 rfl rfl dX8_choose_106 rfl (fun c38 => x_op c38 ?_) (fun c38 => x_on c38 ?_)
              · refine x_pick [0, 1, 3, 4, 5, 6] rfl ?_
                exact hJ32 ()
              · refine x_iload C 5 dX8_choose_109 rfl ?_
                refine x_aload_n C 0 dX8_choose_111 rfl rfl ?_
                refine x_get (v := iV (t5.2.2 k0 12)) C 12 cls_X8 (at_X8 hk0) (by decide) wd532 rfl rfl dX8_choose_112 ?_
                refine x_icmp_ne C 156 rfl rfl dX8_choose_115 rfl (fun c39 => x_on c39 ?_) (fun c39 => x_op c39 ?_)
                · refine x_pick [0, 1, 2, 3, 4] rfl ?_
                  exact hJ21 (t5.1, t5.2.2)
                · refine x_iload C 6 dX8_choose_118 rfl ?_
                  refine x_iload_n C 2 dX8_choose_120 rfl rfl ?_
                  refine x_icmp_ge C 156 rfl rfl dX8_choose_121 rfl (fun c40 => x_op c40 ?_) (fun c40 => x_on c40 ?_)
                  · refine x_pick [0, 1, 2, 3, 4] rfl ?_
                    exact hJ21 (t5.1, t5.2.2)
                  · refine x_pick [0, 1, 3, 4, 5, 6] rfl ?_
                    exact hJ32 ()
        · refine x_iload C 5 dX8_choose_53 rfl ?_
          refine x_aload_n C 0 dX8_choose_55 rfl rfl ?_
          refine x_get (v := .ref (xqa (xXE X).2.2 (k0 + 5))) C 6 cls_X8 (at_X8 hk0) (by decide) wd525 rfl (xV_r (rt_X8_setLate hk0 _) rfl) dX8_choose_56 ?_
          refine x_aload_n C 0 dX8_choose_59 rfl rfl ?_
          refine x_get (v := .ref (xqa (xXE X).2.2 (k0 + 8))) C 9 cls_X8 (at_X8 hk0) (by decide) wd528 rfl (xV_r (rt_X8_shopsOfVan hk0 _) rfl) dX8_choose_60 ?_
          refine x_iload C 7 dX8_choose_63 rfl ?_
          refine x_iald C (at_X8_shopsOfVan hk0) rfl dX8_choose_65 (fun _ => ?_)
          refine x_iald C (at_X8_setLate hk0) rfl dX8_choose_66 (fun _ => ?_)
          refine x_iadd C dX8_choose_67 ?_
          refine x_letI (fun v41 => ?_)
          refine x_istore (L' := [(5, _), (0, _), (1, _), (2, _), (3, _), (4, _), (6, _), (7, _)]) C dX8_choose_68 (by decide) rfl ?_
          refine x_iload C 6 dX8_choose_70 rfl ?_
          refine x_aload_n C 1 dX8_choose_72 rfl rfl ?_
          refine x_get (v := .ref (xqa (xXE X).2.2 (k0 + 6))) C 7 cls_X8 (at_X8 hk0) (by decide) wd526 rfl (xV_r (rt_X8_setMinutes hk0 _) rfl) dX8_choose_73 ?_
          refine x_aload_n C 1 dX8_choose_76 rfl rfl ?_
          refine x_get (v := .ref (xqa (xXE X).2.2 (k0 + 8))) C 9 cls_X8 (at_X8 hk0) (by decide) wd528 rfl (xV_r (rt_X8_shopsOfVan hk0 _) rfl) dX8_choose_77 ?_
          refine x_iload C 7 dX8_choose_80 rfl ?_
          refine x_iald C (at_X8_shopsOfVan hk0) rfl dX8_choose_82 (fun _ => ?_)
          refine x_iald C (at_X8_setMinutes hk0) rfl dX8_choose_83 (fun _ => ?_)
          refine x_iadd C dX8_choose_84 ?_
          refine x_letI (fun v42 => ?_)
          refine x_istore (L' := [(6, _), (5, _), (0, _), (1, _), (2, _), (3, _), (4, _), (7, _)]) C dX8_choose_85 (by decide) rfl ?_
          refine x_inc C 7 (f := _) dX8_choose_87 rfl (by decide) (1) rfl (fun v43 => ?_)
          refine x_reL (L' := [(7, _), (6, _), (5, _), (0, _), (1, _), (2, _), (3, _), (4, _)]) rfl ?_
          refine x_goto C 44 dX8_choose_90 rfl ?_
          refine x_pick [3, 4, 5, 6, 7, 2, 1, 0] rfl ?_
          exact hr28 (v41, v42, v43)
theorem ct_X8_choose (l : Launch) (E : xE) (n : Nat) (k0 : Nat) (k1 : Nat) (σ : xS) (hk0 : isPl k0) (hk1 : isBk k1)  : xMet l E yX8_choose cX8_choose 8 none { frames := 4, cells := 0, slots := 0, locals := 96 } [.ref (xqa E.2.2 k0), .ref (xqa E.2.2 k1)] WW WW σ (xrV (m_X8_choose n k0 k1 σ)) := by
  refine xMet.of0 (by decide) (Nat.le_of_ble_eq_true rfl) rfl rfl (fun X hE C => ?_)
  subst hE
  exact xMap (fun q => (none, q)) (wk_X8_choose C (fun _ => rfl) hk0 hk1)
theorem mt_X8_choose : xMth yX8_choose cX8_choose 8 none 1 := ⟨wd779, wd61, ⟨by decide, by decide, rfl⟩⟩
theorem vr_X8_choose : xVir yX8_choose := ⟨wd777, wd778⟩
def m_X8_latest (n : Nat) (k0 : Nat) (k1 : Nat) (σ : xS) : Option (Int × xS) :=
  if (zI (σ k0 4)) = 0 then xlet (-1) fun v2 => (m_X8_measureSets n k0 k1 σ).bind fun s3 => xbS (m_X8_firstWay n k0 k1 s3) fun v5 s4 => loopF (fun rec7 (t6 : Int × Int × xS) => if (zI v5) ≤ (zI t6.2.1) then some (t6.1, t6.2.2) else (m_X8_canCarry n k0 k1 t6.2.2).bind fun v10 => xj (fun (q13 : Int) => (m_X8_nextWay n k0 k1 t6.2.2).bind fun s14 => xlet (t6.2.1 + 1) fun v15 => rec7 (q13, v15, s14)) fun J11 => if (zI v10) = 0 then J11 t6.1 else loopF (fun rec18 (t17 : Int × Int) => if (zI (t6.2.2 k1 11)) ≤ (zI t17.2) then xlet (zmax t6.1 t17.1) fun v21 => J11 v21 else xck (zI t17.2) 3 <| xck (zI (t6.2.2 (k0 + 8) (zI t17.2).toNat)) 128 <| xlet (zmin t17.1 (t6.2.2 (k0 + 7) (zI (t6.2.2 (k0 + 8) (zI t17.2).toNat)).toNat)) fun v22 => xlet (t17.2 + 1) fun v23 => rec18 (v22, v23)) n (1439, 0)) n (v2, 0, s4) else some ((-1), σ)
set_option maxHeartbeats 4000000 in
set_option maxRecDepth 100000 in
theorem wk_X8_latest {X : xX} {Qf : (Int × xS) → State → Prop} {n : Nat} {k0 : Nat} {k1 : Nat} {σ : xS} (C : xCx X cX8_latest "BakeryNight$Plan" (some .int) { frames := 4, cells := 0, slots := 0, locals := 96 } 7) (hQ : ∀ v τ, Qf (v, τ) = xQf X WW (some (iV v), τ)) (hk0 : isPl k0) (hk1 : isBk k1) : WO X Qf WW σ 0 [(0, .ref (xqa (xXE X).2.2 k0)), (1, .ref (xqa (xXE X).2.2 k1))] [] (m_X8_latest n k0 k1 σ) := by
  unfold m_X8_latest
  refine x_aload_n C 0 dX8_latest_0 rfl rfl ?_
  refine x_get (v := iV (σ k0 4)) C 4 cls_X8 (at_X8 hk0) (by decide) wd523 rfl rfl dX8_latest_1 ?_
  refine x_if_eq C 9 rfl dX8_latest_4 rfl (fun c1 => x_op c1 ?_) (fun c1 => x_on c1 ?_)
  · refine x_iconst C (-1) dX8_latest_9 rfl ?_
    refine x_letI (fun v2 => ?_)
    refine x_istore_n (L' := [(2, _), (0, _), (1, _)]) C dX8_latest_10 rfl (by decide) rfl ?_
    refine x_aload_n C 1 dX8_latest_11 rfl rfl ?_
    refine x_aload_n C 2 dX8_latest_12 rfl rfl ?_
    refine x_callV C (ct_X8_measureSets _ _ n k0 k1 σ hk0 hk1) mt_X8_measureSets vr_X8_measureSets wd780 cls_X8 (at_X8 hk0) rfl ⟨rfl, rfl, Nat.le_of_ble_eq_true rfl, Nat.le_of_ble_eq_true rfl⟩ rfl (by decide) dX8_latest_13 (kV (fun s3 => ?_))
    refine x_aload_n C 1 dX8_latest_16 rfl rfl ?_
    refine x_aload_n C 2 dX8_latest_17 rfl rfl ?_
    refine x_callV C (ct_X8_firstWay _ _ n k0 k1 s3 hk0 hk1) mt_X8_firstWay vr_X8_firstWay wd801 cls_X8 (at_X8 hk0) rfl ⟨rfl, rfl, Nat.le_of_ble_eq_true rfl, Nat.le_of_ble_eq_true rfl⟩ rfl (by decide) dX8_latest_18 (kS (fun v5 s4 => ?_))
    refine x_istore_n (L' := [(3, _), (2, _), (0, _), (1, _)]) C dX8_latest_21 rfl (by decide) rfl ?_
    refine x_iconst C (0) dX8_latest_22 rfl ?_
    refine x_istore (L' := [(4, _), (3, _), (2, _), (0, _), (1, _)]) C dX8_latest_23 (by decide) rfl ?_
    refine x_pick [3, 4, 2, 1, 0] rfl ?_
    refine x_loop (fun t6 : Int × Int × xS => t6.2.2) (fun t6 : Int × Int × xS => [(0, .ref (xqa (xXE X).2.2 k0)), (1, .ref (xqa (xXE X).2.2 k1)), (2, iV t6.1), (3, iV v5), (4, iV t6.2.1)]) (fun rec7 hr8 t6 => ?_) n (v2, 0, s4)
    refine x_iload C 4 dX8_latest_25 rfl ?_
    refine x_iload_n C 3 dX8_latest_27 rfl rfl ?_
    refine x_icmp_ge C 99 rfl rfl dX8_latest_28 rfl (fun c9 => x_op c9 ?_) (fun c9 => x_on c9 ?_)
    · refine x_iload_n C 2 dX8_latest_99 rfl rfl ?_
      exact x_iretQ C (hQ _ _) rfl dX8_latest_100
    · refine x_aload_n C 0 dX8_latest_31 rfl rfl ?_
      refine x_aload_n C 1 dX8_latest_32 rfl rfl ?_
      refine x_callV C (ct_X8_canCarry _ _ n k0 k1 t6.2.2 hk0 hk1) mt_X8_canCarry vr_X8_canCarry wd813 cls_X8 (at_X8 hk0) rfl ⟨rfl, rfl, Nat.le_of_ble_eq_true rfl, Nat.le_of_ble_eq_true rfl⟩ rfl (by decide) dX8_latest_33 (kI (fun v10 => ?_))
      refine x_join (fun J => ∀ q13 : Int, WO X Qf WW t6.2.2 88 [(0, .ref (xqa (xXE X).2.2 k0)), (1, .ref (xqa (xXE X).2.2 k1)), (2, iV q13), (3, iV v5), (4, iV t6.2.1)] [] (J q13)) ?_ ?_
      · intro q13
        refine x_aload_n C 0 dX8_latest_88 rfl rfl ?_
        refine x_aload_n C 1 dX8_latest_89 rfl rfl ?_
        refine x_callV C (ct_X8_nextWay _ _ n k0 k1 t6.2.2 hk0 hk1) mt_X8_nextWay vr_X8_nextWay wd818 cls_X8 (at_X8 hk0) rfl ⟨rfl, rfl, Nat.le_of_ble_eq_true rfl, Nat.le_of_ble_eq_true rfl⟩ rfl (by decide) dX8_latest_90 (kV (fun s14 => ?_))
        refine x_inc C 4 (f := _) dX8_latest_93 rfl (by decide) (1) rfl (fun v15 => ?_)
        refine x_reL (L' := [(4, _), (0, _), (1, _), (2, _), (3, _)]) rfl ?_
        refine x_goto C 25 dX8_latest_96 rfl ?_
        refine x_pick [1, 2, 3, 4, 0] rfl ?_
        exact hr8 (q13, v15, s14)
      · intro J11 hJ12
        refine x_if_eq C 88 rfl dX8_latest_36 rfl (fun c16 => x_op c16 ?_) (fun c16 => x_on c16 ?_)
        · refine x_pick [0, 1, 2, 3, 4] rfl ?_
          exact hJ12 t6.1
        · refine x_sipush C (1439) dX8_latest_39 rfl ?_
          refine x_istore (L' := [(5, _), (0, _), (1, _), (2, _), (3, _), (4, _)]) C dX8_latest_42 (by decide) rfl ?_
          refine x_iconst C (0) dX8_latest_44 rfl ?_
          refine x_istore (L' := [(6, _), (5, _), (0, _), (1, _), (2, _), (3, _), (4, _)]) C dX8_latest_45 (by decide) rfl ?_
          refine x_pick [2, 3, 4, 5, 6, 1, 0] rfl ?_
          refine x_loop (fun t17 : Int × Int => t6.2.2) (fun t17 : Int × Int => [(0, .ref (xqa (xXE X).2.2 k0)), (1, .ref (xqa (xXE X).2.2 k1)), (2, iV t6.1), (3, iV v5), (4, iV t6.2.1), (5, iV t17.1), (6, iV t17.2)]) (fun rec18 hr19 t17 => ?_) n (1439, 0)
          refine x_iload C 6 dX8_latest_47 rfl ?_
          refine x_aload_n C 1 dX8_latest_49 rfl rfl ?_
          refine x_get (v := iV (t6.2.2 k1 11)) C 11 cls_X1 (at_X1 hk1) (by decide) wd375 rfl rfl dX8_latest_50 ?_
          refine x_icmp_ge C 81 rfl rfl dX8_latest_53 rfl (fun c20 => x_op c20 ?_) (fun c20 => x_on c20 ?_)
          · refine x_iload_n C 2 dX8_latest_81 rfl rfl ?_
            refine x_iload C 5 dX8_latest_82 rfl ?_
            refine x_mmax C wd775 wd715 wd58 wd716 (Nat.le_of_ble_eq_true rfl) (Nat.le_of_ble_eq_true rfl) dX8_latest_84 ?_
            refine x_letI (fun v21 => ?_)
            refine x_istore_n (L' := [(2, _), (0, _), (1, _), (3, _), (4, _), (5, _), (6, _)]) C dX8_latest_87 rfl (by decide) rfl ?_
            refine x_pick [1, 2, 0, 3, 4] rfl ?_
            exact hJ12 v21
          · refine x_iload C 5 dX8_latest_56 rfl ?_
            refine x_aload_n C 0 dX8_latest_58 rfl rfl ?_
            refine x_get (v := .ref (xqa (xXE X).2.2 (k0 + 7))) C 8 cls_X8 (at_X8 hk0) (by decide) wd527 rfl (xV_r (rt_X8_setSlack hk0 _) rfl) dX8_latest_59 ?_
            refine x_aload_n C 0 dX8_latest_62 rfl rfl ?_
            refine x_get (v := .ref (xqa (xXE X).2.2 (k0 + 8))) C 9 cls_X8 (at_X8 hk0) (by decide) wd528 rfl (xV_r (rt_X8_shopsOfVan hk0 _) rfl) dX8_latest_63 ?_
            refine x_iload C 6 dX8_latest_66 rfl ?_
            refine x_iald C (at_X8_shopsOfVan hk0) rfl dX8_latest_68 (fun _ => ?_)
            refine x_iald C (at_X8_setSlack hk0) rfl dX8_latest_69 (fun _ => ?_)
            refine x_mmin C wd774 wd321 wd58 wd322 (Nat.le_of_ble_eq_true rfl) (Nat.le_of_ble_eq_true rfl) dX8_latest_70 ?_
            refine x_letI (fun v22 => ?_)
            refine x_istore (L' := [(5, _), (0, _), (1, _), (2, _), (3, _), (4, _), (6, _)]) C dX8_latest_73 (by decide) rfl ?_
            refine x_inc C 6 (f := _) dX8_latest_75 rfl (by decide) (1) rfl (fun v23 => ?_)
            refine x_reL (L' := [(6, _), (5, _), (0, _), (1, _), (2, _), (3, _), (4, _)]) rfl ?_
            refine x_goto C 47 dX8_latest_78 rfl ?_
            refine x_pick [2, 3, 4, 5, 6, 1, 0] rfl ?_
            exact hr19 (v22, v23)
  · refine x_iconst C (-1) dX8_latest_7 rfl ?_
    exact x_iretQ C (hQ _ _) rfl dX8_latest_8
theorem ct_X8_latest (l : Launch) (E : xE) (n : Nat) (k0 : Nat) (k1 : Nat) (σ : xS) (hk0 : isPl k0) (hk1 : isBk k1)  : xMet l E yX8_latest cX8_latest 7 (some .int) { frames := 4, cells := 0, slots := 0, locals := 96 } [.ref (xqa E.2.2 k0), .ref (xqa E.2.2 k1)] WW WW σ (xrS (m_X8_latest n k0 k1 σ)) := by
  refine xMet.of0 (by decide) (Nat.le_of_ble_eq_true rfl) rfl rfl (fun X hE C => ?_)
  subst hE
  exact xMap (fun q => (some (iV q.1), q.2)) (wk_X8_latest C (fun _ _ => rfl) hk0 hk1)
theorem mt_X8_latest : xMth yX8_latest cX8_latest 7 (some .int) 1 := ⟨wd837, wd61, ⟨by decide, by decide, rfl⟩⟩
theorem vr_X8_latest : xVir yX8_latest := ⟨wd835, wd836⟩
def m_X8_missedTotal (k0 : Nat) (σ : xS) : Option Int :=
  (m_J6_bitCount_0f7a4 (σ k0 4)).bind fun v1 => some v1
set_option maxHeartbeats 4000000 in
set_option maxRecDepth 100000 in
theorem wk_X8_missedTotal {X : xX} {Qf : Int → State → Prop} {k0 : Nat} {σ : xS} (C : xCx X cX8_missedTotal "BakeryNight$Plan" (some .int) { frames := 1, cells := 0, slots := 0, locals := 20 } 1) (hQ : ∀ v, Qf v = xQf X WW (some (iV v), σ)) (hk0 : isPl k0) : WO X Qf WW σ 0 [(0, .ref (xqa (xXE X).2.2 k0))] [] (m_X8_missedTotal k0 σ) := by
  unfold m_X8_missedTotal
  refine x_aload_n C 0 dX8_missedTotal_0 rfl rfl ?_
  refine x_get (v := iV (σ k0 4)) C 4 cls_X8 (at_X8 hk0) (by decide) wd523 rfl rfl dX8_missedTotal_1 ?_
  refine x_callS C (ct_J6_bitCount_0f7a4 _ _ (σ k0 4) σ) mt_J6_bitCount_0f7a4 st_J6_bitCount_0f7a4 wd807 rfl ⟨rfl, rfl, Nat.le_of_ble_eq_true rfl, Nat.le_of_ble_eq_true rfl⟩ rfl (by decide) dX8_missedTotal_4 (kI (fun v1 => ?_))
  exact x_iretQ C (hQ _) rfl dX8_missedTotal_7
theorem ct_X8_missedTotal (l : Launch) (E : xE) (k0 : Nat) (σ : xS) (hk0 : isPl k0)  : xMet l E yX8_missedTotal cX8_missedTotal 1 (some .int) { frames := 1, cells := 0, slots := 0, locals := 20 } [.ref (xqa E.2.2 k0)] WW WW σ (xrI (m_X8_missedTotal k0 σ) σ) := by
  refine xMet.of0 (by decide) (Nat.le_of_ble_eq_true rfl) rfl rfl (fun X hE C => ?_)
  subst hE
  exact xMap (fun v => (some (iV v), σ)) (wk_X8_missedTotal C (fun _ => rfl) hk0)
theorem mt_X8_missedTotal : xMth yX8_missedTotal cX8_missedTotal 1 (some .int) 0 := ⟨wd825, wd61, ⟨by decide, by decide, rfl⟩⟩
theorem vr_X8_missedTotal : xVir yX8_missedTotal := ⟨wd823, wd824⟩
def m_X12_append (n : Nat) (p1 : Int) (σ : xS) : Option xS :=
  loopF (fun rec2 (t1 : Int × xS) => xj (fun (q6 : Unit) => some t1.2) fun J4 => if (zI t1.1) < 0 then J4 () else if 1600 ≤ (zI (t1.2 0 1)) then J4 () else xck (zI (t1.2 0 1)) 1600 <| xlet (xput t1.2 1 (zI (t1.2 0 1)).toNat (zb (zi2b (zshr p1 t1.1)))) fun s9 => xlet (xput s9 0 1 ((s9 0 1) + 1)) fun s10 => xlet (t1.1 + (-8)) fun v11 => rec2 (v11, s10)) n (24, σ)
set_option maxHeartbeats 4000000 in
set_option maxRecDepth 100000 in
theorem wk_X12_append {X : xX} {Qf : xS → State → Prop} {n : Nat} {p1 : Int} {σ : xS} (C : xCx X cX12_append "BakeryNight" none { frames := 0, cells := 0, slots := 0, locals := 0 } 3) (hQ : ∀ τ, Qf τ = xQf X WW (none, τ))  : WO X Qf WW σ 0 [(0, .ref (xqa (xXE X).2.2 0)), (1, iV p1)] [] (m_X12_append n p1 σ) := by
  unfold m_X12_append
  refine x_bipush C (24) dX12_append_0 rfl ?_
  refine x_istore_n (L' := [(2, _), (0, _), (1, _)]) C dX12_append_2 rfl (by decide) rfl ?_
  refine x_pick [1, 2, 0] rfl ?_
  refine x_loop (fun t1 : Int × xS => t1.2) (fun t1 : Int × xS => [(0, .ref (xqa (xXE X).2.2 0)), (1, iV p1), (2, iV t1.1)]) (fun rec2 hr3 t1 => ?_) n (24, σ)
  refine x_iload_n C 2 dX12_append_3 rfl rfl ?_
  refine x_join (fun J => ∀ q6 : Unit, WO X Qf WW t1.2 46 [] [] (J q6)) ?_ ?_
  · intro q6
    exact x_vretQ C (hQ _) rfl dX12_append_46
  · intro J4 hJ5
    refine x_if_lt C 46 rfl dX12_append_4 rfl (fun c7 => x_op c7 ?_) (fun c7 => x_on c7 ?_)
    · refine x_pick [] rfl ?_
      exact hJ5 ()
    · refine x_aload_n C 0 dX12_append_7 rfl rfl ?_
      refine x_get (v := iV (t1.2 0 1)) C 1 cls_X12 at_X12 (by decide) wd568 rfl rfl dX12_append_8 ?_
      refine x_sipush C (1600) dX12_append_11 rfl ?_
      refine x_icmp_ge C 46 rfl (zIl _ rfl) dX12_append_14 rfl (fun c8 => x_op c8 ?_) (fun c8 => x_on c8 ?_)
      · refine x_pick [] rfl ?_
        exact hJ5 ()
      · refine x_aload_n C 0 dX12_append_17 rfl rfl ?_
        refine x_get (v := .ref (xqa (xXE X).2.2 1)) C 0 cls_X12 at_X12 (by decide) wd567 rfl (xV_r (rt_X12_buffer  _) rfl) dX12_append_18 ?_
        refine x_aload_n C 0 dX12_append_21 rfl rfl ?_
        refine x_get (v := iV (t1.2 0 1)) C 1 cls_X12 at_X12 (by decide) wd568 rfl rfl dX12_append_22 ?_
        refine x_iload_n C 1 dX12_append_25 rfl rfl ?_
        refine x_iload_n C 2 dX12_append_26 rfl rfl ?_
        refine x_ishr C dX12_append_27 ?_
        refine x_i2b C dX12_append_28 ?_
        refine x_bast C at_X12_buffer rfl dX12_append_29 (fun _ => ?_)
        refine x_letS (fun s9 => ?_)
        refine x_aload_n C 0 dX12_append_30 rfl rfl ?_
        refine x_dup C dX12_append_31 rfl ?_
        refine x_get (v := iV (s9 0 1)) C 1 cls_X12 at_X12 (by decide) wd568 rfl rfl dX12_append_32 ?_
        refine x_iconst C (1) dX12_append_35 rfl ?_
        refine x_iadd C dX12_append_36 ?_
        refine x_put C 1 ((s9 0 1) + 1) cls_X12 at_X12 (by decide) wd568 rfl rfl rfl rfl (xV_pI rfl) dX12_append_37 ?_
        refine x_letS (fun s10 => ?_)
        refine x_inc C 2 (f := _) dX12_append_40 rfl (by decide) (-8) rfl (fun v11 => ?_)
        refine x_reL (L' := [(2, _), (0, _), (1, _)]) rfl ?_
        refine x_goto C 3 dX12_append_43 rfl ?_
        refine x_pick [1, 2, 0] rfl ?_
        exact hr3 (v11, s10)
theorem ct_X12_append (l : Launch) (E : xE) (n : Nat) (p1 : Int) (σ : xS)   : xMet l E yX12_append cX12_append 3 none { frames := 0, cells := 0, slots := 0, locals := 0 } [.ref (xqa E.2.2 0), iV p1] WW WW σ (xrV (m_X12_append n p1 σ)) := by
  refine xMet.of0 (by decide) (Nat.le_of_ble_eq_true rfl) rfl rfl (fun X hE C => ?_)
  subst hE
  exact xMap (fun q => (none, q)) (wk_X12_append C (fun _ => rfl) )
theorem mt_X12_append : xMth yX12_append cX12_append 3 none 1 := ⟨wd924, wd49, ⟨by decide, by decide, rfl⟩⟩
theorem vr_X12_append : xVir yX12_append := ⟨wd923, wd26⟩
def m_X12_feed (n : Nat) (p1 : Int) (p2 : Int) (p3 : Int) (p4 : Int) (p5 : Int) (σ : xS) : Option (Int × xS) :=
  if (zI ((σ 0 1) + 20)) ≤ 1600 then (m_X12_append n p1 σ).bind fun s2 => (m_X12_append n p2 s2).bind fun s3 => (m_X12_append n p3 s3).bind fun s4 => (m_X12_append n p4 s4).bind fun s5 => (m_X12_append n p5 s5).bind fun s6 => some (s6 0 1, s6) else some ((-1), σ)
set_option maxHeartbeats 4000000 in
set_option maxRecDepth 100000 in
theorem wk_X12_feed {X : xX} {Qf : (Int × xS) → State → Prop} {n : Nat} {p1 : Int} {p2 : Int} {p3 : Int} {p4 : Int} {p5 : Int} {σ : xS} (C : xCx X cX12_feed "BakeryNight" (some .int) { frames := 1, cells := 0, slots := 0, locals := 22 } 6) (hQ : ∀ v τ, Qf (v, τ) = xQf X WW (some (iV v), τ))  : WO X Qf WW σ 0 [(0, .ref (xqa (xXE X).2.2 0)), (1, iV p1), (2, iV p2), (3, iV p3), (4, iV p4), (5, iV p5)] [] (m_X12_feed n p1 p2 p3 p4 p5 σ) := by
  unfold m_X12_feed
  refine x_aload_n C 0 dX12_feed_0 rfl rfl ?_
  refine x_get (v := iV (σ 0 1)) C 1 cls_X12 at_X12 (by decide) wd568 rfl rfl dX12_feed_1 ?_
  refine x_bipush C (20) dX12_feed_4 rfl ?_
  refine x_iadd C dX12_feed_6 ?_
  refine x_sipush C (1600) dX12_feed_7 rfl ?_
  refine x_icmp_le C 15 rfl (zIl _ rfl) dX12_feed_10 rfl (fun c1 => x_op c1 ?_) (fun c1 => x_on c1 ?_)
  · refine x_aload_n C 0 dX12_feed_15 rfl rfl ?_
    refine x_iload_n C 1 dX12_feed_16 rfl rfl ?_
    refine x_callV C (ct_X12_append _ _ n p1 σ) mt_X12_append vr_X12_append wd921 cls_X12 at_X12 rfl ⟨rfl, rfl, Nat.le_of_ble_eq_true rfl, Nat.le_of_ble_eq_true rfl⟩ rfl (by decide) dX12_feed_17 (kV (fun s2 => ?_))
    refine x_aload_n C 0 dX12_feed_20 rfl rfl ?_
    refine x_iload_n C 2 dX12_feed_21 rfl rfl ?_
    refine x_callV C (ct_X12_append _ _ n p2 s2) mt_X12_append vr_X12_append wd921 cls_X12 at_X12 rfl ⟨rfl, rfl, Nat.le_of_ble_eq_true rfl, Nat.le_of_ble_eq_true rfl⟩ rfl (by decide) dX12_feed_22 (kV (fun s3 => ?_))
    refine x_aload_n C 0 dX12_feed_25 rfl rfl ?_
    refine x_iload_n C 3 dX12_feed_26 rfl rfl ?_
    refine x_callV C (ct_X12_append _ _ n p3 s3) mt_X12_append vr_X12_append wd921 cls_X12 at_X12 rfl ⟨rfl, rfl, Nat.le_of_ble_eq_true rfl, Nat.le_of_ble_eq_true rfl⟩ rfl (by decide) dX12_feed_27 (kV (fun s4 => ?_))
    refine x_aload_n C 0 dX12_feed_30 rfl rfl ?_
    refine x_iload C 4 dX12_feed_31 rfl ?_
    refine x_callV C (ct_X12_append _ _ n p4 s4) mt_X12_append vr_X12_append wd921 cls_X12 at_X12 rfl ⟨rfl, rfl, Nat.le_of_ble_eq_true rfl, Nat.le_of_ble_eq_true rfl⟩ rfl (by decide) dX12_feed_33 (kV (fun s5 => ?_))
    refine x_aload_n C 0 dX12_feed_36 rfl rfl ?_
    refine x_iload C 5 dX12_feed_37 rfl ?_
    refine x_callV C (ct_X12_append _ _ n p5 s5) mt_X12_append vr_X12_append wd921 cls_X12 at_X12 rfl ⟨rfl, rfl, Nat.le_of_ble_eq_true rfl, Nat.le_of_ble_eq_true rfl⟩ rfl (by decide) dX12_feed_39 (kV (fun s6 => ?_))
    refine x_aload_n C 0 dX12_feed_42 rfl rfl ?_
    refine x_get (v := iV (s6 0 1)) C 1 cls_X12 at_X12 (by decide) wd568 rfl rfl dX12_feed_43 ?_
    exact x_iretQ C (hQ _ _) rfl dX12_feed_46
  · refine x_iconst C (-1) dX12_feed_13 rfl ?_
    exact x_iretQ C (hQ _ _) rfl dX12_feed_14
theorem ct_X12_feed (l : Launch) (E : xE) (n : Nat) (p1 : Int) (p2 : Int) (p3 : Int) (p4 : Int) (p5 : Int) (σ : xS)   : xMet l E yX12_feed cX12_feed 6 (some .int) { frames := 1, cells := 0, slots := 0, locals := 22 } [.ref (xqa E.2.2 0), iV p1, iV p2, iV p3, iV p4, iV p5] WW WW σ (xrS (m_X12_feed n p1 p2 p3 p4 p5 σ)) := by
  refine xMet.of0 (by decide) (Nat.le_of_ble_eq_true rfl) rfl rfl (fun X hE C => ?_)
  subst hE
  exact xMap (fun q => (some (iV q.1), q.2)) (wk_X12_feed C (fun _ _ => rfl) )
theorem mt_X12_feed : xMth yX12_feed cX12_feed 6 (some .int) 5 := ⟨wd920, wd49, ⟨by decide, by decide, rfl⟩⟩
theorem vr_X12_feed : xVir yX12_feed := ⟨wd918, wd919⟩
def m_X12_truncate (p1 : Int) (σ : xS) : Option (Int × xS) :=
  xj (fun (q3 : Unit) => some (0, σ)) fun J1 => if (zI p1) < 0 then J1 () else if (zI p1) ≤ (zI (σ 0 1)) then xlet (xput σ 0 1 p1) fun s6 => some (1, s6) else J1 ()
set_option maxHeartbeats 4000000 in
set_option maxRecDepth 100000 in
theorem wk_X12_truncate {X : xX} {Qf : (Int × xS) → State → Prop} {p1 : Int} {σ : xS} (C : xCx X cX12_truncate "BakeryNight" (some .boolean) { frames := 0, cells := 0, slots := 0, locals := 0 } 2) (hQ : ∀ v τ, Qf (v, τ) = xQf X WW (some (iV v), τ))  : WO X Qf WW σ 0 [(0, .ref (xqa (xXE X).2.2 0)), (1, iV p1)] [] (m_X12_truncate p1 σ) := by
  unfold m_X12_truncate
  refine x_iload_n C 1 dX12_truncate_0 rfl rfl ?_
  refine x_join (fun J => ∀ q3 : Unit, WO X Qf WW σ 12 [] [] (J q3)) ?_ ?_
  · intro q3
    refine x_iconst C (0) dX12_truncate_12 rfl ?_
    exact x_zretQ C (hQ _ _) rfl (Or.inl rfl) dX12_truncate_13
  · intro J1 hJ2
    refine x_if_lt C 12 rfl dX12_truncate_1 rfl (fun c4 => x_op c4 ?_) (fun c4 => x_on c4 ?_)
    · refine x_pick [] rfl ?_
      exact hJ2 ()
    · refine x_iload_n C 1 dX12_truncate_4 rfl rfl ?_
      refine x_aload_n C 0 dX12_truncate_5 rfl rfl ?_
      refine x_get (v := iV (σ 0 1)) C 1 cls_X12 at_X12 (by decide) wd568 rfl rfl dX12_truncate_6 ?_
      refine x_icmp_le C 14 rfl rfl dX12_truncate_9 rfl (fun c5 => x_op c5 ?_) (fun c5 => x_on c5 ?_)
      · refine x_aload_n C 0 dX12_truncate_14 rfl rfl ?_
        refine x_iload_n C 1 dX12_truncate_15 rfl rfl ?_
        refine x_put C 1 p1 cls_X12 at_X12 (by decide) wd568 rfl rfl rfl rfl (xV_pI rfl) dX12_truncate_16 ?_
        refine x_letS (fun s6 => ?_)
        refine x_iconst C (1) dX12_truncate_19 rfl ?_
        exact x_zretQ C (hQ _ _) rfl (Or.inr rfl) dX12_truncate_20
      · refine x_pick [] rfl ?_
        exact hJ2 ()
theorem ct_X12_truncate (l : Launch) (E : xE) (p1 : Int) (σ : xS)   : xMet l E yX12_truncate cX12_truncate 2 (some .boolean) { frames := 0, cells := 0, slots := 0, locals := 0 } [.ref (xqa E.2.2 0), iV p1] WW WW σ (xrS (m_X12_truncate p1 σ)) := by
  refine xMet.of0 (by decide) (Nat.le_of_ble_eq_true rfl) rfl rfl (fun X hE C => ?_)
  subst hE
  exact xMap (fun q => (some (iV q.1), q.2)) (wk_X12_truncate C (fun _ _ => rfl) )
theorem mt_X12_truncate : xMth yX12_truncate cX12_truncate 2 (some .boolean) 1 := ⟨wd928, wd49, ⟨by decide, by decide, rfl⟩⟩
theorem vr_X12_truncate : xVir yX12_truncate := ⟨wd926, wd927⟩
def m_X12_dropNight (σ : xS) : Option xS :=
  xlet (xput σ 0 8 0) fun s1 => some s1
set_option maxHeartbeats 4000000 in
set_option maxRecDepth 100000 in
theorem wk_X12_dropNight {X : xX} {Qf : xS → State → Prop} {σ : xS} (C : xCx X cX12_dropNight "BakeryNight" none { frames := 0, cells := 0, slots := 0, locals := 0 } 1) (hQ : ∀ τ, Qf τ = xQf X WW (none, τ))  : WO X Qf WW σ 0 [(0, .ref (xqa (xXE X).2.2 0))] [] (m_X12_dropNight σ) := by
  unfold m_X12_dropNight
  refine x_aload_n C 0 dX12_dropNight_0 rfl rfl ?_
  refine x_iconst C (0) dX12_dropNight_1 rfl ?_
  refine x_put C 8 0 cls_X12 at_X12 (by decide) wd575 rfl rfl (xnb (Or.inl rfl)) (xfb (Or.inl rfl)) (xV_pI rfl) dX12_dropNight_2 ?_
  refine x_letS (fun s1 => ?_)
  exact x_vretQ C (hQ _) rfl dX12_dropNight_5
theorem ct_X12_dropNight (l : Launch) (E : xE) (σ : xS)   : xMet l E yX12_dropNight cX12_dropNight 1 none { frames := 0, cells := 0, slots := 0, locals := 0 } [.ref (xqa E.2.2 0)] WW WW σ (xrV (m_X12_dropNight σ)) := by
  refine xMet.of0 (by decide) (Nat.le_of_ble_eq_true rfl) rfl rfl (fun X hE C => ?_)
  subst hE
  exact xMap (fun q => (none, q)) (wk_X12_dropNight C (fun _ => rfl) )
theorem mt_X12_dropNight : xMth yX12_dropNight cX12_dropNight 1 none 0 := ⟨wd853, wd49, ⟨by decide, by decide, rfl⟩⟩
theorem vr_X12_dropNight : xVir yX12_dropNight := ⟨wd852, wd25⟩
def m_X12_errorCode (σ : xS) : Int := σ 2 7
set_option maxHeartbeats 4000000 in
set_option maxRecDepth 100000 in
theorem wk_X12_errorCode {X : xX} {Qf : Int → State → Prop} {σ : xS} (C : xCx X cX12_errorCode "BakeryNight" (some .int) { frames := 0, cells := 0, slots := 0, locals := 0 } 1) (hQ : ∀ v, Qf v = xQf X WW (some (iV v), σ))  : WO X Qf WW σ 0 [(0, .ref (xqa (xXE X).2.2 0))] [] (some (m_X12_errorCode σ)) := by
  refine x_aload_n C 0 dX12_errorCode_0 rfl rfl ?_
  refine x_get (v := .ref (xqa (xXE X).2.2 2)) C 2 cls_X12 at_X12 (by decide) wd569 rfl (xV_r (rt_X12_parser  _) rfl) dX12_errorCode_1 ?_
  refine x_get (v := iV (σ 2 7)) C 7 cls_X7 at_X7 (by decide) wd127 rfl rfl dX12_errorCode_4 ?_
  exact x_leafR rfl (x_iretQ C (hQ _) rfl dX12_errorCode_7)
theorem ct_X12_errorCode (l : Launch) (E : xE) (σ : xS)   : xMet l E yX12_errorCode cX12_errorCode 1 (some .int) { frames := 0, cells := 0, slots := 0, locals := 0 } [.ref (xqa E.2.2 0)] WW WW σ (some (some (iV (m_X12_errorCode σ)), σ)) := by
  refine xMet.of0 (by decide) (Nat.le_of_ble_eq_true rfl) rfl rfl (fun X hE C => ?_)
  subst hE
  exact xMap (fun v => (some (iV v), σ)) (wk_X12_errorCode C (fun _ => rfl) )
theorem mt_X12_errorCode : xMth yX12_errorCode cX12_errorCode 1 (some .int) 0 := ⟨wd607, wd49, ⟨by decide, by decide, rfl⟩⟩
theorem vr_X12_errorCode : xVir yX12_errorCode := ⟨wd605, wd606⟩
def m_X12_orderCount (σ : xS) : Int := σ (bkA (σ 0 3)) 13
set_option maxHeartbeats 4000000 in
set_option maxRecDepth 100000 in
theorem wk_X12_orderCount {X : xX} {Qf : Int → State → Prop} {σ : xS} (C : xCx X cX12_orderCount "BakeryNight" (some .int) { frames := 0, cells := 0, slots := 0, locals := 0 } 1) (hQ : ∀ v, Qf v = xQf X WW (some (iV v), σ))  : WO X Qf WW σ 0 [(0, .ref (xqa (xXE X).2.2 0))] [] (some (m_X12_orderCount σ)) := by
  refine x_aload_n C 0 dX12_orderCount_0 rfl rfl ?_
  refine x_get (v := .ref (xqa (xXE X).2.2 (bkA (σ 0 3)))) C 3 cls_X12 at_X12 (by decide) wd570 rfl rfl dX12_orderCount_1 ?_
  refine x_get (v := iV (σ (bkA (σ 0 3)) 13)) C 13 cls_X1 (at_X1 (bk_A (σ 0 3))) (by decide) wd386 rfl rfl dX12_orderCount_4 ?_
  exact x_leafR rfl (x_iretQ C (hQ _) rfl dX12_orderCount_7)
theorem ct_X12_orderCount (l : Launch) (E : xE) (σ : xS)   : xMet l E yX12_orderCount cX12_orderCount 1 (some .int) { frames := 0, cells := 0, slots := 0, locals := 0 } [.ref (xqa E.2.2 0)] WW WW σ (some (some (iV (m_X12_orderCount σ)), σ)) := by
  refine xMet.of0 (by decide) (Nat.le_of_ble_eq_true rfl) rfl rfl (fun X hE C => ?_)
  subst hE
  exact xMap (fun v => (some (iV v), σ)) (wk_X12_orderCount C (fun _ => rfl) )
theorem mt_X12_orderCount : xMth yX12_orderCount cX12_orderCount 1 (some .int) 0 := ⟨wd611, wd49, ⟨by decide, by decide, rfl⟩⟩
theorem vr_X12_orderCount : xVir yX12_orderCount := ⟨wd609, wd610⟩
def m_X12_orderedLoaves (n : Nat) (p1 : Int) (σ : xS) : Option Int :=
  xj (fun (q4 : Int) => some q4) fun J2 => if (m_X1_hasDough (bkA (σ 0 3)) p1 σ) = 0 then J2 (-1) else (m_X1_loavesOf n (bkA (σ 0 3)) p1 σ).bind fun v6 => J2 v6
set_option maxHeartbeats 4000000 in
set_option maxRecDepth 100000 in
theorem wk_X12_orderedLoaves {X : xX} {Qf : Int → State → Prop} {n : Nat} {p1 : Int} {σ : xS} (C : xCx X cX12_orderedLoaves "BakeryNight" (some .int) { frames := 2, cells := 0, slots := 0, locals := 44 } 2) (hQ : ∀ v, Qf v = xQf X WW (some (iV v), σ))  : WO X Qf WW σ 0 [(0, .ref (xqa (xXE X).2.2 0)), (1, iV p1)] [] (m_X12_orderedLoaves n p1 σ) := by
  unfold m_X12_orderedLoaves
  refine x_aload_n C 0 dX12_orderedLoaves_0 rfl rfl ?_
  refine x_get (v := .ref (xqa (xXE X).2.2 (bkA (σ 0 3)))) C 3 cls_X12 at_X12 (by decide) wd570 rfl rfl dX12_orderedLoaves_1 ?_
  refine x_iload_n C 1 dX12_orderedLoaves_4 rfl rfl ?_
  refine x_callV C (ct_X1_hasDough _ _ (bkA (σ 0 3)) p1 σ (bk_A (σ 0 3))) mt_X1_hasDough vr_X1_hasDough wd1500 cls_X1 (at_X1 (bk_A (σ 0 3))) rfl ⟨rfl, rfl, Nat.le_of_ble_eq_true rfl, Nat.le_of_ble_eq_true rfl⟩ rfl (by decide) dX12_orderedLoaves_5 (kP ?_)
  refine x_join (fun J => ∀ q4 : Int, WO X Qf WW σ 23 [] [iV q4] (J q4)) ?_ ?_
  · intro q4
    exact x_iretQ C (hQ _) rfl dX12_orderedLoaves_23
  · intro J2 hJ3
    refine x_if_eq C 22 (zI_bo (bo_X1_hasDough _ _ _)) dX12_orderedLoaves_8 rfl (fun c5 => x_op c5 ?_) (fun c5 => x_on c5 ?_)
    · refine x_iconst C (-1) dX12_orderedLoaves_22 rfl ?_
      refine x_pick [] rfl ?_
      exact hJ3 (-1)
    · refine x_aload_n C 0 dX12_orderedLoaves_11 rfl rfl ?_
      refine x_get (v := .ref (xqa (xXE X).2.2 (bkA (σ 0 3)))) C 3 cls_X12 at_X12 (by decide) wd570 rfl rfl dX12_orderedLoaves_12 ?_
      refine x_iload_n C 1 dX12_orderedLoaves_15 rfl rfl ?_
      refine x_callV C (ct_X1_loavesOf _ _ n (bkA (σ 0 3)) p1 σ (bk_A (σ 0 3))) mt_X1_loavesOf vr_X1_loavesOf wd1509 cls_X1 (at_X1 (bk_A (σ 0 3))) rfl ⟨rfl, rfl, Nat.le_of_ble_eq_true rfl, Nat.le_of_ble_eq_true rfl⟩ rfl (by decide) dX12_orderedLoaves_16 (kI (fun v6 => ?_))
      refine x_goto C 23 dX12_orderedLoaves_19 rfl ?_
      refine x_pick [] rfl ?_
      exact hJ3 v6
theorem ct_X12_orderedLoaves (l : Launch) (E : xE) (n : Nat) (p1 : Int) (σ : xS)   : xMet l E yX12_orderedLoaves cX12_orderedLoaves 2 (some .int) { frames := 2, cells := 0, slots := 0, locals := 44 } [.ref (xqa E.2.2 0), iV p1] WW WW σ (xrI (m_X12_orderedLoaves n p1 σ) σ) := by
  refine xMet.of0 (by decide) (Nat.le_of_ble_eq_true rfl) rfl rfl (fun X hE C => ?_)
  subst hE
  exact xMap (fun v => (some (iV v), σ)) (wk_X12_orderedLoaves C (fun _ => rfl) )
theorem mt_X12_orderedLoaves : xMth yX12_orderedLoaves cX12_orderedLoaves 2 (some .int) 1 := ⟨wd1508, wd49, ⟨by decide, by decide, rfl⟩⟩
theorem vr_X12_orderedLoaves : xVir yX12_orderedLoaves := ⟨wd1506, wd1507⟩
def m_X12_batchCount (n : Nat) (σ : xS) : Option Int :=
  (m_X1_batchesNeeded n (bkA (σ 0 3)) σ).bind fun v1 => xlet (if (zI v1) ≤ 60 then v1 else (-3)) fun v2 => some v2
set_option maxHeartbeats 4000000 in
set_option maxRecDepth 100000 in
theorem wk_X12_batchCount {X : xX} {Qf : Int → State → Prop} {n : Nat} {σ : xS} (C : xCx X cX12_batchCount "BakeryNight" (some .int) { frames := 4, cells := 0, slots := 0, locals := 87 } 2) (hQ : ∀ v, Qf v = xQf X WW (some (iV v), σ))  : WO X Qf WW σ 0 [(0, .ref (xqa (xXE X).2.2 0))] [] (m_X12_batchCount n σ) := by
  unfold m_X12_batchCount
  refine x_aload_n C 0 dX12_batchCount_0 rfl rfl ?_
  refine x_get (v := .ref (xqa (xXE X).2.2 (bkA (σ 0 3)))) C 3 cls_X12 at_X12 (by decide) wd570 rfl rfl dX12_batchCount_1 ?_
  refine x_callV C (ct_X1_batchesNeeded _ _ n (bkA (σ 0 3)) σ (bk_A (σ 0 3))) mt_X1_batchesNeeded vr_X1_batchesNeeded wd616 cls_X1 (at_X1 (bk_A (σ 0 3))) rfl ⟨rfl, rfl, Nat.le_of_ble_eq_true rfl, Nat.le_of_ble_eq_true rfl⟩ rfl (by decide) dX12_batchCount_4 (kI (fun v1 => ?_))
  refine x_istore_n (L' := [(1, _), (0, _)]) C dX12_batchCount_7 rfl (by decide) rfl ?_
  refine x_iload_n C 0 dX12_batchCount_8 rfl rfl ?_
  refine x_bipush C (60) dX12_batchCount_9 rfl ?_
  refine x_tree 20 [] (fun v2 => ?_) (fun hJ3 => ?_)
  · exact x_iretQ C (hQ _) rfl dX12_batchCount_20
  · refine x_icmp_le C 19 rfl (zIl _ rfl) dX12_batchCount_11 rfl (fun c4 => ?_) (fun c4 => ?_)
    · refine x_iload_n C 0 dX12_batchCount_19 rfl rfl ?_
      exact hJ3 _ (by rw [if_pos c4])
    · refine x_bipush C (-3) dX12_batchCount_14 rfl ?_
      refine x_goto C 20 dX12_batchCount_16 rfl ?_
      exact hJ3 _ (by rw [if_neg c4])
theorem ct_X12_batchCount (l : Launch) (E : xE) (n : Nat) (σ : xS)   : xMet l E yX12_batchCount cX12_batchCount 2 (some .int) { frames := 4, cells := 0, slots := 0, locals := 87 } [.ref (xqa E.2.2 0)] WW WW σ (xrI (m_X12_batchCount n σ) σ) := by
  refine xMet.of0 (by decide) (Nat.le_of_ble_eq_true rfl) rfl rfl (fun X hE C => ?_)
  subst hE
  exact xMap (fun v => (some (iV v), σ)) (wk_X12_batchCount C (fun _ => rfl) )
theorem mt_X12_batchCount : xMth yX12_batchCount cX12_batchCount 2 (some .int) 0 := ⟨wd615, wd49, ⟨by decide, by decide, rfl⟩⟩
theorem vr_X12_batchCount : xVir yX12_batchCount := ⟨wd613, wd614⟩
def m_X12_routeMinutes (p1 : Int) (σ : xS) : Option Int :=
  if (zI (zand p1 (zxor (m_X1_allShops (bkA (σ 0 3)) σ) (-1)))) = 0 then (m_X9_restOfRoute ((bkA (σ 0 3)) + 39) 7 p1 σ).bind fun v2 => xlet (if (zI v2) < 1000000 then v2 else (-1)) fun v3 => some v3 else some (-1)
set_option maxHeartbeats 4000000 in
set_option maxRecDepth 100000 in
theorem wk_X12_routeMinutes {X : xX} {Qf : Int → State → Prop} {p1 : Int} {σ : xS} (C : xCx X cX12_routeMinutes "BakeryNight" (some .int) { frames := 1, cells := 0, slots := 0, locals := 22 } 3) (hQ : ∀ v, Qf v = xQf X WW (some (iV v), σ))  : WO X Qf WW σ 0 [(0, .ref (xqa (xXE X).2.2 0)), (1, iV p1)] [] (m_X12_routeMinutes p1 σ) := by
  unfold m_X12_routeMinutes
  refine x_iload_n C 1 dX12_routeMinutes_0 rfl rfl ?_
  refine x_aload_n C 0 dX12_routeMinutes_1 rfl rfl ?_
  refine x_get (v := .ref (xqa (xXE X).2.2 (bkA (σ 0 3)))) C 3 cls_X12 at_X12 (by decide) wd570 rfl rfl dX12_routeMinutes_2 ?_
  refine x_callV C (ct_X1_allShops _ _ (bkA (σ 0 3)) σ (bk_A (σ 0 3))) mt_X1_allShops vr_X1_allShops wd639 cls_X1 (at_X1 (bk_A (σ 0 3))) rfl ⟨rfl, rfl, Nat.le_of_ble_eq_true rfl, Nat.le_of_ble_eq_true rfl⟩ rfl (Nat.le_of_ble_eq_true rfl) dX12_routeMinutes_5 (kP ?_)
  refine x_iconst C (-1) dX12_routeMinutes_8 rfl ?_
  refine x_ixor C dX12_routeMinutes_9 ?_
  refine x_iand C dX12_routeMinutes_10 ?_
  refine x_if_eq C 16 rfl dX12_routeMinutes_11 rfl (fun c1 => x_op c1 ?_) (fun c1 => x_on c1 ?_)
  · refine x_aload_n C 0 dX12_routeMinutes_16 rfl rfl ?_
    refine x_get (v := .ref (xqa (xXE X).2.2 (bkA (σ 0 3)))) C 3 cls_X12 at_X12 (by decide) wd570 rfl rfl dX12_routeMinutes_17 ?_
    refine x_get (v := .ref (xqa (xXE X).2.2 ((bkA (σ 0 3)) + 39))) C 9 cls_X1 (at_X1 (bk_A (σ 0 3))) (by decide) wd370 rfl (xV_r (rt_X1_roads (bk_A (σ 0 3)) _) rfl) dX12_routeMinutes_20 ?_
    refine x_bipush C (7) dX12_routeMinutes_23 rfl ?_
    refine x_iload_n C 1 dX12_routeMinutes_25 rfl rfl ?_
    refine x_callV C (ct_X9_restOfRoute _ _ ((bkA (σ 0 3)) + 39) 7 p1 σ (rd_bk (bk_A (σ 0 3)))) mt_X9_restOfRoute vr_X9_restOfRoute wd643 cls_X9 (at_X9 (rd_bk (bk_A (σ 0 3)))) rfl ⟨rfl, rfl, Nat.le_of_ble_eq_true rfl, Nat.le_of_ble_eq_true rfl⟩ rfl (by decide) dX12_routeMinutes_26 (kI (fun v2 => ?_))
    refine x_istore_n (L' := [(2, _), (0, _), (1, _)]) C dX12_routeMinutes_29 rfl (by decide) rfl ?_
    refine x_iload_n C 0 dX12_routeMinutes_30 rfl rfl ?_
    refine x_ldc C (1000000) wd647 rfl dX12_routeMinutes_31 ?_
    refine x_tree 41 [] (fun v3 => ?_) (fun hJ4 => ?_)
    · exact x_iretQ C (hQ _) rfl dX12_routeMinutes_41
    · refine x_icmp_lt C 40 rfl (zIl _ rfl) dX12_routeMinutes_33 rfl (fun c5 => ?_) (fun c5 => ?_)
      · refine x_iload_n C 0 dX12_routeMinutes_40 rfl rfl ?_
        exact hJ4 _ (by rw [if_pos c5])
      · refine x_iconst C (-1) dX12_routeMinutes_36 rfl ?_
        refine x_goto C 41 dX12_routeMinutes_37 rfl ?_
        exact hJ4 _ (by rw [if_neg c5])
  · refine x_iconst C (-1) dX12_routeMinutes_14 rfl ?_
    exact x_iretQ C (hQ _) rfl dX12_routeMinutes_15
theorem ct_X12_routeMinutes (l : Launch) (E : xE) (p1 : Int) (σ : xS)   : xMet l E yX12_routeMinutes cX12_routeMinutes 3 (some .int) { frames := 1, cells := 0, slots := 0, locals := 22 } [.ref (xqa E.2.2 0), iV p1] WW WW σ (xrI (m_X12_routeMinutes p1 σ) σ) := by
  refine xMet.of0 (by decide) (Nat.le_of_ble_eq_true rfl) rfl rfl (fun X hE C => ?_)
  subst hE
  exact xMap (fun v => (some (iV v), σ)) (wk_X12_routeMinutes C (fun _ => rfl) )
theorem mt_X12_routeMinutes : xMth yX12_routeMinutes cX12_routeMinutes 3 (some .int) 1 := ⟨wd638, wd49, ⟨by decide, by decide, rfl⟩⟩
theorem vr_X12_routeMinutes : xVir yX12_routeMinutes := ⟨wd636, wd637⟩
def m_X12_simulate (n : Nat) (p1 : Int) (σ : xS) : Option (Int × xS) :=
  xj (fun (q4 : Unit) => some ((-1), σ)) fun J2 => if (zI p1) < 0 then J2 () else if (zI p1) ≤ 1439 then (m_X12_batchCount n σ).bind fun v7 => if (zI v7) = (-3) then some ((-3), σ) else (m_X4_run n 118 (bkA (σ 0 3)) p1 σ).bind fun s9 => xlet (xput s9 0 8 1) fun s10 => xlet (xput s10 0 9 0) fun s11 => some (s11 118 1, s11) else J2 ()
set_option maxHeartbeats 4000000 in
set_option maxRecDepth 100000 in
theorem wk_X12_simulate {X : xX} {Qf : (Int × xS) → State → Prop} {n : Nat} {p1 : Int} {σ : xS} (C : xCx X cX12_simulate "BakeryNight" (some .int) { frames := 6, cells := 0, slots := 0, locals := 140 } 2) (hQ : ∀ v τ, Qf (v, τ) = xQf X WW (some (iV v), τ))  : WO X Qf WW σ 0 [(0, .ref (xqa (xXE X).2.2 0)), (1, iV p1)] [] (m_X12_simulate n p1 σ) := by
  unfold m_X12_simulate
  refine x_iload_n C 1 dX12_simulate_0 rfl rfl ?_
  refine x_join (fun J => ∀ q4 : Unit, WO X Qf WW σ 11 [] [] (J q4)) ?_ ?_
  · intro q4
    refine x_iconst C (-1) dX12_simulate_11 rfl ?_
    exact x_iretQ C (hQ _ _) rfl dX12_simulate_12
  · intro J2 hJ3
    refine x_if_lt C 11 rfl dX12_simulate_1 rfl (fun c5 => x_op c5 ?_) (fun c5 => x_on c5 ?_)
    · refine x_pick [] rfl ?_
      exact hJ3 ()
    · refine x_iload_n C 1 dX12_simulate_4 rfl rfl ?_
      refine x_sipush C (1439) dX12_simulate_5 rfl ?_
      refine x_icmp_le C 13 rfl (zIl _ rfl) dX12_simulate_8 rfl (fun c6 => x_op c6 ?_) (fun c6 => x_on c6 ?_)
      · refine x_aload_n C 0 dX12_simulate_13 rfl rfl ?_
        refine x_callV C (ct_X12_batchCount _ _ n σ) mt_X12_batchCount vr_X12_batchCount wd652 cls_X12 at_X12 rfl ⟨rfl, rfl, Nat.le_of_ble_eq_true rfl, Nat.le_of_ble_eq_true rfl⟩ rfl (by decide) dX12_simulate_14 (kI (fun v7 => ?_))
        refine x_bipush C (-3) dX12_simulate_17 rfl ?_
        refine x_icmp_ne C 25 rfl (zIl _ rfl) dX12_simulate_19 rfl (fun c8 => x_on c8 ?_) (fun c8 => x_op c8 ?_)
        · refine x_aload_n C 0 dX12_simulate_25 rfl rfl ?_
          refine x_get (v := .ref (xqa (xXE X).2.2 118)) C 6 cls_X12 at_X12 (by decide) wd573 rfl (xV_r (rt_X12_night  _) rfl) dX12_simulate_26 ?_
          refine x_aload_n C 0 dX12_simulate_29 rfl rfl ?_
          refine x_get (v := .ref (xqa (xXE X).2.2 (bkA (σ 0 3)))) C 3 cls_X12 at_X12 (by decide) wd570 rfl rfl dX12_simulate_30 ?_
          refine x_iload_n C 1 dX12_simulate_33 rfl rfl ?_
          refine x_callV C (ct_X4_run _ _ n 118 (bkA (σ 0 3)) p1 σ (by first | exact Or.inl rfl | exact Or.inr rfl) (bk_A (σ 0 3))) mt_X4_run vr_X4_run wd653 cls_X4 (at_X4 (by first | exact Or.inl rfl | exact Or.inr rfl)) rfl ⟨rfl, rfl, Nat.le_of_ble_eq_true rfl, Nat.le_of_ble_eq_true rfl⟩ rfl (by decide) dX12_simulate_34 (kV (fun s9 => ?_))
          refine x_aload_n C 0 dX12_simulate_37 rfl rfl ?_
          refine x_iconst C (1) dX12_simulate_38 rfl ?_
          refine x_put C 8 1 cls_X12 at_X12 (by decide) wd575 rfl rfl (xnb (Or.inr rfl)) (xfb (Or.inr rfl)) (xV_pI rfl) dX12_simulate_39 ?_
          refine x_letS (fun s10 => ?_)
          refine x_aload_n C 0 dX12_simulate_42 rfl rfl ?_
          refine x_iconst C (0) dX12_simulate_43 rfl ?_
          refine x_put C 9 0 cls_X12 at_X12 (by decide) wd576 rfl rfl (xnb (Or.inl rfl)) (xfb (Or.inl rfl)) (xV_pI rfl) dX12_simulate_44 ?_
          refine x_letS (fun s11 => ?_)
          refine x_aload_n C 0 dX12_simulate_47 rfl rfl ?_
          refine x_get (v := .ref (xqa (xXE X).2.2 118)) C 6 cls_X12 at_X12 (by decide) wd573 rfl (xV_r (rt_X12_night  _) rfl) dX12_simulate_48 ?_
          refine x_get (v := iV (s11 118 1)) C 1 cls_X4 (at_X4 (by first | exact Or.inl rfl | exact Or.inr rfl)) (by decide) wd447 rfl rfl dX12_simulate_51 ?_
          exact x_iretQ C (hQ _ _) rfl dX12_simulate_54
        · refine x_bipush C (-3) dX12_simulate_22 rfl ?_
          exact x_iretQ C (hQ _ _) rfl dX12_simulate_24
      · refine x_pick [] rfl ?_
        exact hJ3 ()
theorem ct_X12_simulate (l : Launch) (E : xE) (n : Nat) (p1 : Int) (σ : xS)   : xMet l E yX12_simulate cX12_simulate 2 (some .int) { frames := 6, cells := 0, slots := 0, locals := 140 } [.ref (xqa E.2.2 0), iV p1] WW WW σ (xrS (m_X12_simulate n p1 σ)) := by
  refine xMet.of0 (by decide) (Nat.le_of_ble_eq_true rfl) rfl rfl (fun X hE C => ?_)
  subst hE
  exact xMap (fun q => (some (iV q.1), q.2)) (wk_X12_simulate C (fun _ _ => rfl) )
theorem mt_X12_simulate : xMth yX12_simulate cX12_simulate 2 (some .int) 1 := ⟨wd651, wd49, ⟨by decide, by decide, rfl⟩⟩
theorem vr_X12_simulate : xVir yX12_simulate := ⟨wd649, wd650⟩
def m_X12_spoiledCount (n : Nat) (σ : xS) : Option Int :=
  xj (fun (q4 : Int) => some q4) fun J2 => if (zI (σ 0 8)) = 0 then J2 (-2) else (m_X4_spoiledBatches n 118 σ).bind fun v6 => J2 v6
set_option maxHeartbeats 4000000 in
set_option maxRecDepth 100000 in
theorem wk_X12_spoiledCount {X : xX} {Qf : Int → State → Prop} {n : Nat} {σ : xS} (C : xCx X cX12_spoiledCount "BakeryNight" (some .int) { frames := 1, cells := 0, slots := 0, locals := 22 } 1) (hQ : ∀ v, Qf v = xQf X WW (some (iV v), σ))  : WO X Qf WW σ 0 [(0, .ref (xqa (xXE X).2.2 0))] [] (m_X12_spoiledCount n σ) := by
  unfold m_X12_spoiledCount
  refine x_aload_n C 0 dX12_spoiledCount_0 rfl rfl ?_
  refine x_get (v := iV (σ 0 8)) C 8 cls_X12 at_X12 (by decide) wd575 rfl rfl dX12_spoiledCount_1 ?_
  refine x_join (fun J => ∀ q4 : Int, WO X Qf WW σ 19 [] [iV q4] (J q4)) ?_ ?_
  · intro q4
    exact x_iretQ C (hQ _) rfl dX12_spoiledCount_19
  · intro J2 hJ3
    refine x_if_eq C 17 rfl dX12_spoiledCount_4 rfl (fun c5 => x_op c5 ?_) (fun c5 => x_on c5 ?_)
    · refine x_bipush C (-2) dX12_spoiledCount_17 rfl ?_
      refine x_pick [] rfl ?_
      exact hJ3 (-2)
    · refine x_aload_n C 0 dX12_spoiledCount_7 rfl rfl ?_
      refine x_get (v := .ref (xqa (xXE X).2.2 118)) C 6 cls_X12 at_X12 (by decide) wd573 rfl (xV_r (rt_X12_night  _) rfl) dX12_spoiledCount_8 ?_
      refine x_callV C (ct_X4_spoiledBatches _ _ n 118 σ (by first | exact Or.inl rfl | exact Or.inr rfl)) mt_X4_spoiledBatches vr_X4_spoiledBatches wd756 cls_X4 (at_X4 (by first | exact Or.inl rfl | exact Or.inr rfl)) rfl ⟨rfl, rfl, Nat.le_of_ble_eq_true rfl, Nat.le_of_ble_eq_true rfl⟩ rfl (by decide) dX12_spoiledCount_11 (kI (fun v6 => ?_))
      refine x_goto C 19 dX12_spoiledCount_14 rfl ?_
      refine x_pick [] rfl ?_
      exact hJ3 v6
theorem ct_X12_spoiledCount (l : Launch) (E : xE) (n : Nat) (σ : xS)   : xMet l E yX12_spoiledCount cX12_spoiledCount 1 (some .int) { frames := 1, cells := 0, slots := 0, locals := 22 } [.ref (xqa E.2.2 0)] WW WW σ (xrI (m_X12_spoiledCount n σ) σ) := by
  refine xMet.of0 (by decide) (Nat.le_of_ble_eq_true rfl) rfl rfl (fun X hE C => ?_)
  subst hE
  exact xMap (fun v => (some (iV v), σ)) (wk_X12_spoiledCount C (fun _ => rfl) )
theorem mt_X12_spoiledCount : xMth yX12_spoiledCount cX12_spoiledCount 1 (some .int) 0 := ⟨wd755, wd49, ⟨by decide, by decide, rfl⟩⟩
theorem vr_X12_spoiledCount : xVir yX12_spoiledCount := ⟨wd753, wd754⟩
def m_X12_changingMinutes (p1 : Int) (σ : xS) : Option Int :=
  if (zI (σ 0 8)) = 0 then some (-2) else xj (fun (q4 : Int) => some q4) fun J2 => if (m_X1_hasOven (bkA (σ 0 3)) p1 σ) = 0 then J2 (-1) else xck (zI p1) 4 <| J2 (σ (118 + 17) (zI p1).toNat)
set_option maxHeartbeats 4000000 in
set_option maxRecDepth 100000 in
theorem wk_X12_changingMinutes {X : xX} {Qf : Int → State → Prop} {p1 : Int} {σ : xS} (C : xCx X cX12_changingMinutes "BakeryNight" (some .int) { frames := 1, cells := 0, slots := 0, locals := 21 } 2) (hQ : ∀ v, Qf v = xQf X WW (some (iV v), σ))  : WO X Qf WW σ 0 [(0, .ref (xqa (xXE X).2.2 0)), (1, iV p1)] [] (m_X12_changingMinutes p1 σ) := by
  unfold m_X12_changingMinutes
  refine x_aload_n C 0 dX12_changingMinutes_0 rfl rfl ?_
  refine x_get (v := iV (σ 0 8)) C 8 cls_X12 at_X12 (by decide) wd575 rfl rfl dX12_changingMinutes_1 ?_
  refine x_if_ne C 10 rfl dX12_changingMinutes_4 rfl (fun c1 => x_on c1 ?_) (fun c1 => x_op c1 ?_)
  · refine x_aload_n C 0 dX12_changingMinutes_10 rfl rfl ?_
    refine x_get (v := .ref (xqa (xXE X).2.2 (bkA (σ 0 3)))) C 3 cls_X12 at_X12 (by decide) wd570 rfl rfl dX12_changingMinutes_11 ?_
    refine x_iload_n C 1 dX12_changingMinutes_14 rfl rfl ?_
    refine x_callV C (ct_X1_hasOven _ _ (bkA (σ 0 3)) p1 σ (bk_A (σ 0 3))) mt_X1_hasOven vr_X1_hasOven wd1448 cls_X1 (at_X1 (bk_A (σ 0 3))) rfl ⟨rfl, rfl, Nat.le_of_ble_eq_true rfl, Nat.le_of_ble_eq_true rfl⟩ rfl (by decide) dX12_changingMinutes_15 (kP ?_)
    refine x_join (fun J => ∀ q4 : Int, WO X Qf WW σ 34 [] [iV q4] (J q4)) ?_ ?_
    · intro q4
      exact x_iretQ C (hQ _) rfl dX12_changingMinutes_34
    · intro J2 hJ3
      refine x_if_eq C 33 (zI_bo (bo_X1_hasOven _ _ _)) dX12_changingMinutes_18 rfl (fun c5 => x_op c5 ?_) (fun c5 => x_on c5 ?_)
      · refine x_iconst C (-1) dX12_changingMinutes_33 rfl ?_
        refine x_pick [] rfl ?_
        exact hJ3 (-1)
      · refine x_aload_n C 0 dX12_changingMinutes_21 rfl rfl ?_
        refine x_get (v := .ref (xqa (xXE X).2.2 118)) C 6 cls_X12 at_X12 (by decide) wd573 rfl (xV_r (rt_X12_night  _) rfl) dX12_changingMinutes_22 ?_
        refine x_get (v := .ref (xqa (xXE X).2.2 (118 + 17))) C 16 cls_X4 (at_X4 (by first | exact Or.inl rfl | exact Or.inr rfl)) (by decide) wd466 rfl (xV_r (rt_X4_changed (by first | exact Or.inl rfl | exact Or.inr rfl) _) rfl) dX12_changingMinutes_25 ?_
        refine x_iload_n C 1 dX12_changingMinutes_28 rfl rfl ?_
        refine x_iald C (at_X4_changed (by first | exact Or.inl rfl | exact Or.inr rfl)) rfl dX12_changingMinutes_29 (fun _ => ?_)
        refine x_goto C 34 dX12_changingMinutes_30 rfl ?_
        refine x_pick [] rfl ?_
        exact hJ3 (σ (118 + 17) (zI p1).toNat)
  · refine x_bipush C (-2) dX12_changingMinutes_7 rfl ?_
    exact x_iretQ C (hQ _) rfl dX12_changingMinutes_9
theorem ct_X12_changingMinutes (l : Launch) (E : xE) (p1 : Int) (σ : xS)   : xMet l E yX12_changingMinutes cX12_changingMinutes 2 (some .int) { frames := 1, cells := 0, slots := 0, locals := 21 } [.ref (xqa E.2.2 0), iV p1] WW WW σ (xrI (m_X12_changingMinutes p1 σ) σ) := by
  refine xMet.of0 (by decide) (Nat.le_of_ble_eq_true rfl) rfl rfl (fun X hE C => ?_)
  subst hE
  exact xMap (fun v => (some (iV v), σ)) (wk_X12_changingMinutes C (fun _ => rfl) )
theorem mt_X12_changingMinutes : xMth yX12_changingMinutes cX12_changingMinutes 2 (some .int) 1 := ⟨wd1473, wd49, ⟨by decide, by decide, rfl⟩⟩
theorem vr_X12_changingMinutes : xVir yX12_changingMinutes := ⟨wd1471, wd1472⟩
def m_X12_bakingMinutes (n : Nat) (p1 : Int) (σ : xS) : Option Int :=
  if (zI (σ 0 8)) = 0 then some (-2) else xj (fun (q5 : Int) => some q5) fun J3 => if (m_X1_hasOven (bkA (σ 0 3)) p1 σ) = 0 then J3 (-1) else (m_X4_minutesBakedIn n 118 p1 σ).bind fun v7 => J3 v7
set_option maxHeartbeats 4000000 in
set_option maxRecDepth 100000 in
theorem wk_X12_bakingMinutes {X : xX} {Qf : Int → State → Prop} {n : Nat} {p1 : Int} {σ : xS} (C : xCx X cX12_bakingMinutes "BakeryNight" (some .int) { frames := 1, cells := 0, slots := 0, locals := 23 } 2) (hQ : ∀ v, Qf v = xQf X WW (some (iV v), σ))  : WO X Qf WW σ 0 [(0, .ref (xqa (xXE X).2.2 0)), (1, iV p1)] [] (m_X12_bakingMinutes n p1 σ) := by
  unfold m_X12_bakingMinutes
  refine x_aload_n C 0 dX12_bakingMinutes_0 rfl rfl ?_
  refine x_get (v := iV (σ 0 8)) C 8 cls_X12 at_X12 (by decide) wd575 rfl rfl dX12_bakingMinutes_1 ?_
  refine x_if_ne C 10 rfl dX12_bakingMinutes_4 rfl (fun c1 => x_on c1 ?_) (fun c1 => x_op c1 ?_)
  · refine x_aload_n C 0 dX12_bakingMinutes_10 rfl rfl ?_
    refine x_get (v := .ref (xqa (xXE X).2.2 (bkA (σ 0 3)))) C 3 cls_X12 at_X12 (by decide) wd570 rfl rfl dX12_bakingMinutes_11 ?_
    refine x_iload_n C 1 dX12_bakingMinutes_14 rfl rfl ?_
    refine x_callV C (ct_X1_hasOven _ _ (bkA (σ 0 3)) p1 σ (bk_A (σ 0 3))) mt_X1_hasOven vr_X1_hasOven wd1448 cls_X1 (at_X1 (bk_A (σ 0 3))) rfl ⟨rfl, rfl, Nat.le_of_ble_eq_true rfl, Nat.le_of_ble_eq_true rfl⟩ rfl (by decide) dX12_bakingMinutes_15 (kP ?_)
    refine x_join (fun J => ∀ q5 : Int, WO X Qf WW σ 33 [] [iV q5] (J q5)) ?_ ?_
    · intro q5
      exact x_iretQ C (hQ _) rfl dX12_bakingMinutes_33
    · intro J3 hJ4
      refine x_if_eq C 32 (zI_bo (bo_X1_hasOven _ _ _)) dX12_bakingMinutes_18 rfl (fun c6 => x_op c6 ?_) (fun c6 => x_on c6 ?_)
      · refine x_iconst C (-1) dX12_bakingMinutes_32 rfl ?_
        refine x_pick [] rfl ?_
        exact hJ4 (-1)
      · refine x_aload_n C 0 dX12_bakingMinutes_21 rfl rfl ?_
        refine x_get (v := .ref (xqa (xXE X).2.2 118)) C 6 cls_X12 at_X12 (by decide) wd573 rfl (xV_r (rt_X12_night  _) rfl) dX12_bakingMinutes_22 ?_
        refine x_iload_n C 1 dX12_bakingMinutes_25 rfl rfl ?_
        refine x_callV C (ct_X4_minutesBakedIn _ _ n 118 p1 σ (by first | exact Or.inl rfl | exact Or.inr rfl)) mt_X4_minutesBakedIn vr_X4_minutesBakedIn wd1452 cls_X4 (at_X4 (by first | exact Or.inl rfl | exact Or.inr rfl)) rfl ⟨rfl, rfl, Nat.le_of_ble_eq_true rfl, Nat.le_of_ble_eq_true rfl⟩ rfl (by decide) dX12_bakingMinutes_26 (kI (fun v7 => ?_))
        refine x_goto C 33 dX12_bakingMinutes_29 rfl ?_
        refine x_pick [] rfl ?_
        exact hJ4 v7
  · refine x_bipush C (-2) dX12_bakingMinutes_7 rfl ?_
    exact x_iretQ C (hQ _) rfl dX12_bakingMinutes_9
theorem ct_X12_bakingMinutes (l : Launch) (E : xE) (n : Nat) (p1 : Int) (σ : xS)   : xMet l E yX12_bakingMinutes cX12_bakingMinutes 2 (some .int) { frames := 1, cells := 0, slots := 0, locals := 23 } [.ref (xqa E.2.2 0), iV p1] WW WW σ (xrI (m_X12_bakingMinutes n p1 σ) σ) := by
  refine xMet.of0 (by decide) (Nat.le_of_ble_eq_true rfl) rfl rfl (fun X hE C => ?_)
  subst hE
  exact xMap (fun v => (some (iV v), σ)) (wk_X12_bakingMinutes C (fun _ => rfl) )
theorem mt_X12_bakingMinutes : xMth yX12_bakingMinutes cX12_bakingMinutes 2 (some .int) 1 := ⟨wd1447, wd49, ⟨by decide, by decide, rfl⟩⟩
theorem vr_X12_bakingMinutes : xVir yX12_bakingMinutes := ⟨wd1445, wd1446⟩
def m_X12_waitingMinutes (n : Nat) (p1 : Int) (σ : xS) : Option Int :=
  if (zI (σ 0 8)) = 0 then some (-2) else xj (fun (q5 : Int) => some q5) fun J3 => if (m_X4_isPlace p1) = 0 then J3 (-1) else (m_X4_minutesWaitedFor n 118 p1 σ).bind fun v7 => J3 v7
set_option maxHeartbeats 4000000 in
set_option maxRecDepth 100000 in
theorem wk_X12_waitingMinutes {X : xX} {Qf : Int → State → Prop} {n : Nat} {p1 : Int} {σ : xS} (C : xCx X cX12_waitingMinutes "BakeryNight" (some .int) { frames := 2, cells := 0, slots := 0, locals := 44 } 2) (hQ : ∀ v, Qf v = xQf X WW (some (iV v), σ))  : WO X Qf WW σ 0 [(0, .ref (xqa (xXE X).2.2 0)), (1, iV p1)] [] (m_X12_waitingMinutes n p1 σ) := by
  unfold m_X12_waitingMinutes
  refine x_aload_n C 0 dX12_waitingMinutes_0 rfl rfl ?_
  refine x_get (v := iV (σ 0 8)) C 8 cls_X12 at_X12 (by decide) wd575 rfl rfl dX12_waitingMinutes_1 ?_
  refine x_if_ne C 10 rfl dX12_waitingMinutes_4 rfl (fun c1 => x_on c1 ?_) (fun c1 => x_op c1 ?_)
  · refine x_iload_n C 1 dX12_waitingMinutes_10 rfl rfl ?_
    refine x_callS C (ct_X4_isPlace _ _ p1 σ) mt_X4_isPlace st_X4_isPlace wd1460 rfl ⟨rfl, rfl, Nat.le_of_ble_eq_true rfl, Nat.le_of_ble_eq_true rfl⟩ rfl (by decide) dX12_waitingMinutes_11 (kP ?_)
    refine x_join (fun J => ∀ q5 : Int, WO X Qf WW σ 29 [] [iV q5] (J q5)) ?_ ?_
    · intro q5
      exact x_iretQ C (hQ _) rfl dX12_waitingMinutes_29
    · intro J3 hJ4
      refine x_if_eq C 28 (zI_bo (bo_X4_isPlace _)) dX12_waitingMinutes_14 rfl (fun c6 => x_op c6 ?_) (fun c6 => x_on c6 ?_)
      · refine x_iconst C (-1) dX12_waitingMinutes_28 rfl ?_
        refine x_pick [] rfl ?_
        exact hJ4 (-1)
      · refine x_aload_n C 0 dX12_waitingMinutes_17 rfl rfl ?_
        refine x_get (v := .ref (xqa (xXE X).2.2 118)) C 6 cls_X12 at_X12 (by decide) wd573 rfl (xV_r (rt_X12_night  _) rfl) dX12_waitingMinutes_18 ?_
        refine x_iload_n C 1 dX12_waitingMinutes_21 rfl rfl ?_
        refine x_callV C (ct_X4_minutesWaitedFor _ _ n 118 p1 σ (by first | exact Or.inl rfl | exact Or.inr rfl)) mt_X4_minutesWaitedFor vr_X4_minutesWaitedFor wd1463 cls_X4 (at_X4 (by first | exact Or.inl rfl | exact Or.inr rfl)) rfl ⟨rfl, rfl, Nat.le_of_ble_eq_true rfl, Nat.le_of_ble_eq_true rfl⟩ rfl (by decide) dX12_waitingMinutes_22 (kI (fun v7 => ?_))
        refine x_goto C 29 dX12_waitingMinutes_25 rfl ?_
        refine x_pick [] rfl ?_
        exact hJ4 v7
  · refine x_bipush C (-2) dX12_waitingMinutes_7 rfl ?_
    exact x_iretQ C (hQ _) rfl dX12_waitingMinutes_9
theorem ct_X12_waitingMinutes (l : Launch) (E : xE) (n : Nat) (p1 : Int) (σ : xS)   : xMet l E yX12_waitingMinutes cX12_waitingMinutes 2 (some .int) { frames := 2, cells := 0, slots := 0, locals := 44 } [.ref (xqa E.2.2 0), iV p1] WW WW σ (xrI (m_X12_waitingMinutes n p1 σ) σ) := by
  refine xMet.of0 (by decide) (Nat.le_of_ble_eq_true rfl) rfl rfl (fun X hE C => ?_)
  subst hE
  exact xMap (fun v => (some (iV v), σ)) (wk_X12_waitingMinutes C (fun _ => rfl) )
theorem mt_X12_waitingMinutes : xMth yX12_waitingMinutes cX12_waitingMinutes 2 (some .int) 1 := ⟨wd1459, wd49, ⟨by decide, by decide, rfl⟩⟩
theorem vr_X12_waitingMinutes : xVir yX12_waitingMinutes := ⟨wd1457, wd1458⟩
def m_X12_readyMinute (p1 : Int) (σ : xS) : Option Int :=
  if (zI (σ 0 8)) = 0 then some (-2) else (m_X1_hasOrder (bkA (σ 0 3)) p1 σ).bind fun v2 => xj (fun (q5 : Int) => some q5) fun J3 => if (zI v2) = 0 then J3 (-1) else xck (zI p1) 24 <| J3 (σ (118 + 19) (zI p1).toNat)
set_option maxHeartbeats 4000000 in
set_option maxRecDepth 100000 in
theorem wk_X12_readyMinute {X : xX} {Qf : Int → State → Prop} {p1 : Int} {σ : xS} (C : xCx X cX12_readyMinute "BakeryNight" (some .int) { frames := 1, cells := 0, slots := 0, locals := 21 } 2) (hQ : ∀ v, Qf v = xQf X WW (some (iV v), σ))  : WO X Qf WW σ 0 [(0, .ref (xqa (xXE X).2.2 0)), (1, iV p1)] [] (m_X12_readyMinute p1 σ) := by
  unfold m_X12_readyMinute
  refine x_aload_n C 0 dX12_readyMinute_0 rfl rfl ?_
  refine x_get (v := iV (σ 0 8)) C 8 cls_X12 at_X12 (by decide) wd575 rfl rfl dX12_readyMinute_1 ?_
  refine x_if_ne C 10 rfl dX12_readyMinute_4 rfl (fun c1 => x_on c1 ?_) (fun c1 => x_op c1 ?_)
  · refine x_aload_n C 0 dX12_readyMinute_10 rfl rfl ?_
    refine x_get (v := .ref (xqa (xXE X).2.2 (bkA (σ 0 3)))) C 3 cls_X12 at_X12 (by decide) wd570 rfl rfl dX12_readyMinute_11 ?_
    refine x_iload_n C 1 dX12_readyMinute_14 rfl rfl ?_
    refine x_callV C (ct_X1_hasOrder _ _ (bkA (σ 0 3)) p1 σ (bk_A (σ 0 3))) mt_X1_hasOrder vr_X1_hasOrder wd1478 cls_X1 (at_X1 (bk_A (σ 0 3))) rfl ⟨rfl, rfl, Nat.le_of_ble_eq_true rfl, Nat.le_of_ble_eq_true rfl⟩ rfl (by decide) dX12_readyMinute_15 (kI (fun v2 => ?_))
    refine x_join (fun J => ∀ q5 : Int, WO X Qf WW σ 34 [] [iV q5] (J q5)) ?_ ?_
    · intro q5
      exact x_iretQ C (hQ _) rfl dX12_readyMinute_34
    · intro J3 hJ4
      refine x_if_eq C 33 rfl dX12_readyMinute_18 rfl (fun c6 => x_op c6 ?_) (fun c6 => x_on c6 ?_)
      · refine x_iconst C (-1) dX12_readyMinute_33 rfl ?_
        refine x_pick [] rfl ?_
        exact hJ4 (-1)
      · refine x_aload_n C 0 dX12_readyMinute_21 rfl rfl ?_
        refine x_get (v := .ref (xqa (xXE X).2.2 118)) C 6 cls_X12 at_X12 (by decide) wd573 rfl (xV_r (rt_X12_night  _) rfl) dX12_readyMinute_22 ?_
        refine x_get (v := .ref (xqa (xXE X).2.2 (118 + 19))) C 18 cls_X4 (at_X4 (by first | exact Or.inl rfl | exact Or.inr rfl)) (by decide) wd470 rfl (xV_r (rt_X4_ready (by first | exact Or.inl rfl | exact Or.inr rfl) _) rfl) dX12_readyMinute_25 ?_
        refine x_iload_n C 1 dX12_readyMinute_28 rfl rfl ?_
        refine x_iald C (at_X4_ready (by first | exact Or.inl rfl | exact Or.inr rfl)) rfl dX12_readyMinute_29 (fun _ => ?_)
        refine x_goto C 34 dX12_readyMinute_30 rfl ?_
        refine x_pick [] rfl ?_
        exact hJ4 (σ (118 + 19) (zI p1).toNat)
  · refine x_bipush C (-2) dX12_readyMinute_7 rfl ?_
    exact x_iretQ C (hQ _) rfl dX12_readyMinute_9
theorem ct_X12_readyMinute (l : Launch) (E : xE) (p1 : Int) (σ : xS)   : xMet l E yX12_readyMinute cX12_readyMinute 2 (some .int) { frames := 1, cells := 0, slots := 0, locals := 21 } [.ref (xqa E.2.2 0), iV p1] WW WW σ (xrI (m_X12_readyMinute p1 σ) σ) := by
  refine xMet.of0 (by decide) (Nat.le_of_ble_eq_true rfl) rfl rfl (fun X hE C => ?_)
  subst hE
  exact xMap (fun v => (some (iV v), σ)) (wk_X12_readyMinute C (fun _ => rfl) )
theorem mt_X12_readyMinute : xMth yX12_readyMinute cX12_readyMinute 2 (some .int) 1 := ⟨wd1477, wd49, ⟨by decide, by decide, rfl⟩⟩
theorem vr_X12_readyMinute : xVir yX12_readyMinute := ⟨wd1475, wd1476⟩
def m_X12_surplusLoaves (n : Nat) (p1 : Int) (σ : xS) : Option Int :=
  if (zI (σ 0 8)) = 0 then some (-2) else xj (fun (q5 : Int) => some q5) fun J3 => if (m_X1_hasDough (bkA (σ 0 3)) p1 σ) = 0 then J3 (-1) else (m_X4_leftOver n 118 (bkA (σ 0 3)) p1 σ).bind fun v7 => J3 v7
set_option maxHeartbeats 4000000 in
set_option maxRecDepth 100000 in
theorem wk_X12_surplusLoaves {X : xX} {Qf : Int → State → Prop} {n : Nat} {p1 : Int} {σ : xS} (C : xCx X cX12_surplusLoaves "BakeryNight" (some .int) { frames := 3, cells := 0, slots := 0, locals := 68 } 2) (hQ : ∀ v, Qf v = xQf X WW (some (iV v), σ))  : WO X Qf WW σ 0 [(0, .ref (xqa (xXE X).2.2 0)), (1, iV p1)] [] (m_X12_surplusLoaves n p1 σ) := by
  unfold m_X12_surplusLoaves
  refine x_aload_n C 0 dX12_surplusLoaves_0 rfl rfl ?_
  refine x_get (v := iV (σ 0 8)) C 8 cls_X12 at_X12 (by decide) wd575 rfl rfl dX12_surplusLoaves_1 ?_
  refine x_if_ne C 10 rfl dX12_surplusLoaves_4 rfl (fun c1 => x_on c1 ?_) (fun c1 => x_op c1 ?_)
  · refine x_aload_n C 0 dX12_surplusLoaves_10 rfl rfl ?_
    refine x_get (v := .ref (xqa (xXE X).2.2 (bkA (σ 0 3)))) C 3 cls_X12 at_X12 (by decide) wd570 rfl rfl dX12_surplusLoaves_11 ?_
    refine x_iload_n C 1 dX12_surplusLoaves_14 rfl rfl ?_
    refine x_callV C (ct_X1_hasDough _ _ (bkA (σ 0 3)) p1 σ (bk_A (σ 0 3))) mt_X1_hasDough vr_X1_hasDough wd1500 cls_X1 (at_X1 (bk_A (σ 0 3))) rfl ⟨rfl, rfl, Nat.le_of_ble_eq_true rfl, Nat.le_of_ble_eq_true rfl⟩ rfl (by decide) dX12_surplusLoaves_15 (kP ?_)
    refine x_join (fun J => ∀ q5 : Int, WO X Qf WW σ 37 [] [iV q5] (J q5)) ?_ ?_
    · intro q5
      exact x_iretQ C (hQ _) rfl dX12_surplusLoaves_37
    · intro J3 hJ4
      refine x_if_eq C 36 (zI_bo (bo_X1_hasDough _ _ _)) dX12_surplusLoaves_18 rfl (fun c6 => x_op c6 ?_) (fun c6 => x_on c6 ?_)
      · refine x_iconst C (-1) dX12_surplusLoaves_36 rfl ?_
        refine x_pick [] rfl ?_
        exact hJ4 (-1)
      · refine x_aload_n C 0 dX12_surplusLoaves_21 rfl rfl ?_
        refine x_get (v := .ref (xqa (xXE X).2.2 118)) C 6 cls_X12 at_X12 (by decide) wd573 rfl (xV_r (rt_X12_night  _) rfl) dX12_surplusLoaves_22 ?_
        refine x_aload_n C 0 dX12_surplusLoaves_25 rfl rfl ?_
        refine x_get (v := .ref (xqa (xXE X).2.2 (bkA (σ 0 3)))) C 3 cls_X12 at_X12 (by decide) wd570 rfl rfl dX12_surplusLoaves_26 ?_
        refine x_iload_n C 1 dX12_surplusLoaves_29 rfl rfl ?_
        refine x_callV C (ct_X4_leftOver _ _ n 118 (bkA (σ 0 3)) p1 σ (by first | exact Or.inl rfl | exact Or.inr rfl) (bk_A (σ 0 3))) mt_X4_leftOver vr_X4_leftOver wd1504 cls_X4 (at_X4 (by first | exact Or.inl rfl | exact Or.inr rfl)) rfl ⟨rfl, rfl, Nat.le_of_ble_eq_true rfl, Nat.le_of_ble_eq_true rfl⟩ rfl (by decide) dX12_surplusLoaves_30 (kI (fun v7 => ?_))
        refine x_goto C 37 dX12_surplusLoaves_33 rfl ?_
        refine x_pick [] rfl ?_
        exact hJ4 v7
  · refine x_bipush C (-2) dX12_surplusLoaves_7 rfl ?_
    exact x_iretQ C (hQ _) rfl dX12_surplusLoaves_9
theorem ct_X12_surplusLoaves (l : Launch) (E : xE) (n : Nat) (p1 : Int) (σ : xS)   : xMet l E yX12_surplusLoaves cX12_surplusLoaves 2 (some .int) { frames := 3, cells := 0, slots := 0, locals := 68 } [.ref (xqa E.2.2 0), iV p1] WW WW σ (xrI (m_X12_surplusLoaves n p1 σ) σ) := by
  refine xMet.of0 (by decide) (Nat.le_of_ble_eq_true rfl) rfl rfl (fun X hE C => ?_)
  subst hE
  exact xMap (fun v => (some (iV v), σ)) (wk_X12_surplusLoaves C (fun _ => rfl) )
theorem mt_X12_surplusLoaves : xMth yX12_surplusLoaves cX12_surplusLoaves 2 (some .int) 1 := ⟨wd1499, wd49, ⟨by decide, by decide, rfl⟩⟩
theorem vr_X12_surplusLoaves : xVir yX12_surplusLoaves := ⟨wd1497, wd1498⟩
def m_X12_surplusValue (n : Nat) (p1 : Int) (σ : xS) : Option Int :=
  if (zI (σ 0 8)) = 0 then some (-2) else xj (fun (q4 : Unit) => some (-1)) fun J2 => if (zI p1) < 0 then J2 () else if (zI p1) ≤ 9999 then loopF (fun rec8 (t7 : Int × Int) => if (zI (σ (bkA (σ 0 3)) 5)) ≤ (zI t7.2) then some t7.1 else (m_X4_leftOverCents n 118 (bkA (σ 0 3)) t7.2 p1 σ).bind fun v11 => xlet (t7.1 + v11) fun v12 => xlet (t7.2 + 1) fun v13 => rec8 (v12, v13)) n (0, 0) else J2 ()
set_option maxHeartbeats 4000000 in
set_option maxRecDepth 100000 in
theorem wk_X12_surplusValue {X : xX} {Qf : Int → State → Prop} {n : Nat} {p1 : Int} {σ : xS} (C : xCx X cX12_surplusValue "BakeryNight" (some .int) { frames := 4, cells := 0, slots := 0, locals := 94 } 4) (hQ : ∀ v, Qf v = xQf X WW (some (iV v), σ))  : WO X Qf WW σ 0 [(0, .ref (xqa (xXE X).2.2 0)), (1, iV p1)] [] (m_X12_surplusValue n p1 σ) := by
  unfold m_X12_surplusValue
  refine x_aload_n C 0 dX12_surplusValue_0 rfl rfl ?_
  refine x_get (v := iV (σ 0 8)) C 8 cls_X12 at_X12 (by decide) wd575 rfl rfl dX12_surplusValue_1 ?_
  refine x_if_ne C 10 rfl dX12_surplusValue_4 rfl (fun c1 => x_on c1 ?_) (fun c1 => x_op c1 ?_)
  · refine x_iload_n C 1 dX12_surplusValue_10 rfl rfl ?_
    refine x_join (fun J => ∀ q4 : Unit, WO X Qf WW σ 21 [] [] (J q4)) ?_ ?_
    · intro q4
      refine x_iconst C (-1) dX12_surplusValue_21 rfl ?_
      exact x_iretQ C (hQ _) rfl dX12_surplusValue_22
    · intro J2 hJ3
      refine x_if_lt C 21 rfl dX12_surplusValue_11 rfl (fun c5 => x_op c5 ?_) (fun c5 => x_on c5 ?_)
      · refine x_pick [] rfl ?_
        exact hJ3 ()
      · refine x_iload_n C 1 dX12_surplusValue_14 rfl rfl ?_
        refine x_sipush C (9999) dX12_surplusValue_15 rfl ?_
        refine x_icmp_le C 23 rfl (zIl _ rfl) dX12_surplusValue_18 rfl (fun c6 => x_op c6 ?_) (fun c6 => x_on c6 ?_)
        · refine x_iconst C (0) dX12_surplusValue_23 rfl ?_
          refine x_istore_n (L' := [(2, _), (0, _), (1, _)]) C dX12_surplusValue_24 rfl (by decide) rfl ?_
          refine x_iconst C (0) dX12_surplusValue_25 rfl ?_
          refine x_istore_n (L' := [(3, _), (2, _), (0, _), (1, _)]) C dX12_surplusValue_26 rfl (by decide) rfl ?_
          refine x_pick [2, 3, 1, 0] rfl ?_
          refine x_loop (fun t7 : Int × Int => σ) (fun t7 : Int × Int => [(0, .ref (xqa (xXE X).2.2 0)), (1, iV p1), (2, iV t7.1), (3, iV t7.2)]) (fun rec8 hr9 t7 => ?_) n (0, 0)
          refine x_iload_n C 3 dX12_surplusValue_27 rfl rfl ?_
          refine x_aload_n C 0 dX12_surplusValue_28 rfl rfl ?_
          refine x_get (v := .ref (xqa (xXE X).2.2 (bkA (σ 0 3)))) C 3 cls_X12 at_X12 (by decide) wd570 rfl rfl dX12_surplusValue_29 ?_
          refine x_get (v := iV (σ (bkA (σ 0 3)) 5)) C 5 cls_X1 (at_X1 (bk_A (σ 0 3))) (by decide) wd355 rfl rfl dX12_surplusValue_32 ?_
          refine x_icmp_ge C 60 rfl rfl dX12_surplusValue_35 rfl (fun c10 => x_op c10 ?_) (fun c10 => x_on c10 ?_)
          · refine x_iload_n C 2 dX12_surplusValue_60 rfl rfl ?_
            exact x_iretQ C (hQ _) rfl dX12_surplusValue_61
          · refine x_iload_n C 2 dX12_surplusValue_38 rfl rfl ?_
            refine x_aload_n C 0 dX12_surplusValue_39 rfl rfl ?_
            refine x_get (v := .ref (xqa (xXE X).2.2 118)) C 6 cls_X12 at_X12 (by decide) wd573 rfl (xV_r (rt_X12_night  _) rfl) dX12_surplusValue_40 ?_
            refine x_aload_n C 0 dX12_surplusValue_43 rfl rfl ?_
            refine x_get (v := .ref (xqa (xXE X).2.2 (bkA (σ 0 3)))) C 3 cls_X12 at_X12 (by decide) wd570 rfl rfl dX12_surplusValue_44 ?_
            refine x_iload_n C 3 dX12_surplusValue_47 rfl rfl ?_
            refine x_iload_n C 1 dX12_surplusValue_48 rfl rfl ?_
            refine x_callV C (ct_X4_leftOverCents _ _ n 118 (bkA (σ 0 3)) t7.2 p1 σ (by first | exact Or.inl rfl | exact Or.inr rfl) (bk_A (σ 0 3))) mt_X4_leftOverCents vr_X4_leftOverCents wd1487 cls_X4 (at_X4 (by first | exact Or.inl rfl | exact Or.inr rfl)) rfl ⟨rfl, rfl, Nat.le_of_ble_eq_true rfl, Nat.le_of_ble_eq_true rfl⟩ rfl (Nat.le_of_ble_eq_true rfl) dX12_surplusValue_49 (kI (fun v11 => ?_))
            refine x_iadd C dX12_surplusValue_52 ?_
            refine x_letI (fun v12 => ?_)
            refine x_istore_n (L' := [(2, _), (0, _), (1, _), (3, _)]) C dX12_surplusValue_53 rfl (by decide) rfl ?_
            refine x_inc C 3 (f := _) dX12_surplusValue_54 rfl (by decide) (1) rfl (fun v13 => ?_)
            refine x_reL (L' := [(3, _), (2, _), (0, _), (1, _)]) rfl ?_
            refine x_goto C 27 dX12_surplusValue_57 rfl ?_
            refine x_pick [2, 3, 1, 0] rfl ?_
            exact hr9 (v12, v13)
        · refine x_pick [] rfl ?_
          exact hJ3 ()
  · refine x_bipush C (-2) dX12_surplusValue_7 rfl ?_
    exact x_iretQ C (hQ _) rfl dX12_surplusValue_9
theorem ct_X12_surplusValue (l : Launch) (E : xE) (n : Nat) (p1 : Int) (σ : xS)   : xMet l E yX12_surplusValue cX12_surplusValue 4 (some .int) { frames := 4, cells := 0, slots := 0, locals := 94 } [.ref (xqa E.2.2 0), iV p1] WW WW σ (xrI (m_X12_surplusValue n p1 σ) σ) := by
  refine xMet.of0 (by decide) (Nat.le_of_ble_eq_true rfl) rfl rfl (fun X hE C => ?_)
  subst hE
  exact xMap (fun v => (some (iV v), σ)) (wk_X12_surplusValue C (fun _ => rfl) )
theorem mt_X12_surplusValue : xMth yX12_surplusValue cX12_surplusValue 4 (some .int) 1 := ⟨wd1486, wd49, ⟨by decide, by decide, rfl⟩⟩
theorem vr_X12_surplusValue : xVir yX12_surplusValue := ⟨wd1484, wd1485⟩
def m_X12_latestAsItIs (n : Nat) (σ : xS) : Option (Int × xS) :=
  (m_X4_run n 151 (bkA (σ 0 3)) 0 σ).bind fun s1 => (m_X8_gather n 172 (bkA (s1 0 3)) 151 s1).bind fun s2 => xbS (m_X8_latest n 172 (bkA (s2 0 3)) s2) fun v4 s3 => some (v4, s3)
set_option maxHeartbeats 4000000 in
set_option maxRecDepth 100000 in
theorem wk_X12_latestAsItIs {X : xX} {Qf : (Int × xS) → State → Prop} {n : Nat} {σ : xS} (C : xCx X cX12_latestAsItIs "BakeryNight" (some .int) { frames := 6, cells := 0, slots := 0, locals := 140 } 1) (hQ : ∀ v τ, Qf (v, τ) = xQf X WW (some (iV v), τ))  : WO X Qf WW σ 0 [(0, .ref (xqa (xXE X).2.2 0))] [] (m_X12_latestAsItIs n σ) := by
  unfold m_X12_latestAsItIs
  refine x_aload_n C 0 dX12_latestAsItIs_0 rfl rfl ?_
  refine x_get (v := .ref (xqa (xXE X).2.2 151)) C 10 cls_X12 at_X12 (by decide) wd577 rfl (xV_r (rt_X12_trialNight  _) rfl) dX12_latestAsItIs_1 ?_
  refine x_aload_n C 0 dX12_latestAsItIs_4 rfl rfl ?_
  refine x_get (v := .ref (xqa (xXE X).2.2 (bkA (σ 0 3)))) C 3 cls_X12 at_X12 (by decide) wd570 rfl rfl dX12_latestAsItIs_5 ?_
  refine x_iconst C (0) dX12_latestAsItIs_8 rfl ?_
  refine x_callV C (ct_X4_run _ _ n 151 (bkA (σ 0 3)) 0 σ (by first | exact Or.inl rfl | exact Or.inr rfl) (bk_A (σ 0 3))) mt_X4_run vr_X4_run wd653 cls_X4 (at_X4 (by first | exact Or.inl rfl | exact Or.inr rfl)) rfl ⟨rfl, rfl, Nat.le_of_ble_eq_true rfl, Nat.le_of_ble_eq_true rfl⟩ rfl (by decide) dX12_latestAsItIs_9 (kV (fun s1 => ?_))
  refine x_aload_n C 0 dX12_latestAsItIs_12 rfl rfl ?_
  refine x_get (v := .ref (xqa (xXE X).2.2 172)) C 11 cls_X12 at_X12 (by decide) wd578 rfl (xV_r (rt_X12_trialPlan  _) rfl) dX12_latestAsItIs_13 ?_
  refine x_aload_n C 0 dX12_latestAsItIs_16 rfl rfl ?_
  refine x_get (v := .ref (xqa (xXE X).2.2 (bkA (s1 0 3)))) C 3 cls_X12 at_X12 (by decide) wd570 rfl rfl dX12_latestAsItIs_17 ?_
  refine x_aload_n C 0 dX12_latestAsItIs_20 rfl rfl ?_
  refine x_get (v := .ref (xqa (xXE X).2.2 151)) C 10 cls_X12 at_X12 (by decide) wd577 rfl (xV_r (rt_X12_trialNight  _) rfl) dX12_latestAsItIs_21 ?_
  refine x_callV C (ct_X8_gather _ _ n 172 (bkA (s1 0 3)) 151 s1 (by first | exact Or.inl rfl | exact Or.inr rfl) (bk_A (s1 0 3)) (by first | exact Or.inl rfl | exact Or.inr rfl)) mt_X8_gather vr_X8_gather wd768 cls_X8 (at_X8 (by first | exact Or.inl rfl | exact Or.inr rfl)) rfl ⟨rfl, rfl, Nat.le_of_ble_eq_true rfl, Nat.le_of_ble_eq_true rfl⟩ rfl (by decide) dX12_latestAsItIs_24 (kV (fun s2 => ?_))
  refine x_aload_n C 0 dX12_latestAsItIs_27 rfl rfl ?_
  refine x_get (v := .ref (xqa (xXE X).2.2 172)) C 11 cls_X12 at_X12 (by decide) wd578 rfl (xV_r (rt_X12_trialPlan  _) rfl) dX12_latestAsItIs_28 ?_
  refine x_aload_n C 0 dX12_latestAsItIs_31 rfl rfl ?_
  refine x_get (v := .ref (xqa (xXE X).2.2 (bkA (s2 0 3)))) C 3 cls_X12 at_X12 (by decide) wd570 rfl rfl dX12_latestAsItIs_32 ?_
  refine x_callV C (ct_X8_latest _ _ n 172 (bkA (s2 0 3)) s2 (by first | exact Or.inl rfl | exact Or.inr rfl) (bk_A (s2 0 3))) mt_X8_latest vr_X8_latest wd834 cls_X8 (at_X8 (by first | exact Or.inl rfl | exact Or.inr rfl)) rfl ⟨rfl, rfl, Nat.le_of_ble_eq_true rfl, Nat.le_of_ble_eq_true rfl⟩ rfl (by decide) dX12_latestAsItIs_35 (kS (fun v4 s3 => ?_))
  exact x_iretQ C (hQ _ _) rfl dX12_latestAsItIs_38
theorem ct_X12_latestAsItIs (l : Launch) (E : xE) (n : Nat) (σ : xS)   : xMet l E yX12_latestAsItIs cX12_latestAsItIs 1 (some .int) { frames := 6, cells := 0, slots := 0, locals := 140 } [.ref (xqa E.2.2 0)] WW WW σ (xrS (m_X12_latestAsItIs n σ)) := by
  refine xMet.of0 (by decide) (Nat.le_of_ble_eq_true rfl) rfl rfl (fun X hE C => ?_)
  subst hE
  exact xMap (fun q => (some (iV q.1), q.2)) (wk_X12_latestAsItIs C (fun _ _ => rfl) )
theorem mt_X12_latestAsItIs : xMth yX12_latestAsItIs cX12_latestAsItIs 1 (some .int) 0 := ⟨wd833, wd49, ⟨by decide, by decide, rfl⟩⟩
theorem vr_X12_latestAsItIs : xVir yX12_latestAsItIs := ⟨wd832, wd24⟩
def m_X12_latestStart (n : Nat) (σ : xS) : Option (Int × xS) :=
  (m_X12_batchCount n σ).bind fun v1 => xj (fun (q6 : xS × Int) => some (q6.2, q6.1)) fun J4 => if (zI v1) = (-3) then J4 (σ, (-3)) else xbS (m_X12_latestAsItIs n σ) fun v9 s8 => J4 (s8, v9)
set_option maxHeartbeats 4000000 in
set_option maxRecDepth 100000 in
theorem wk_X12_latestStart {X : xX} {Qf : (Int × xS) → State → Prop} {n : Nat} {σ : xS} (C : xCx X cX12_latestStart "BakeryNight" (some .int) { frames := 7, cells := 0, slots := 0, locals := 160 } 1) (hQ : ∀ v τ, Qf (v, τ) = xQf X WW (some (iV v), τ))  : WO X Qf WW σ 0 [(0, .ref (xqa (xXE X).2.2 0))] [] (m_X12_latestStart n σ) := by
  unfold m_X12_latestStart
  refine x_aload_n C 0 dX12_latestStart_0 rfl rfl ?_
  refine x_callV C (ct_X12_batchCount _ _ n σ) mt_X12_batchCount vr_X12_batchCount wd652 cls_X12 at_X12 rfl ⟨rfl, rfl, Nat.le_of_ble_eq_true rfl, Nat.le_of_ble_eq_true rfl⟩ rfl (by decide) dX12_latestStart_1 (kI (fun v1 => ?_))
  refine x_bipush C (-3) dX12_latestStart_4 rfl ?_
  refine x_join (fun J => ∀ q6 : xS × Int, WO X Qf WW q6.1 18 [] [iV q6.2] (J q6)) ?_ ?_
  · intro q6
    exact x_iretQ C (hQ _ _) rfl dX12_latestStart_18
  · intro J4 hJ5
    refine x_icmp_ne C 14 rfl (zIl _ rfl) dX12_latestStart_6 rfl (fun c7 => x_on c7 ?_) (fun c7 => x_op c7 ?_)
    · refine x_aload_n C 0 dX12_latestStart_14 rfl rfl ?_
      refine x_callV C (ct_X12_latestAsItIs _ _ n σ) mt_X12_latestAsItIs vr_X12_latestAsItIs wd830 cls_X12 at_X12 rfl ⟨rfl, rfl, Nat.le_of_ble_eq_true rfl, Nat.le_of_ble_eq_true rfl⟩ rfl (by decide) dX12_latestStart_15 (kS (fun v9 s8 => ?_))
      refine x_pick [] rfl ?_
      exact hJ5 (s8, v9)
    · refine x_bipush C (-3) dX12_latestStart_9 rfl ?_
      refine x_goto C 18 dX12_latestStart_11 rfl ?_
      refine x_pick [] rfl ?_
      exact hJ5 (σ, (-3))
theorem ct_X12_latestStart (l : Launch) (E : xE) (n : Nat) (σ : xS)   : xMet l E yX12_latestStart cX12_latestStart 1 (some .int) { frames := 7, cells := 0, slots := 0, locals := 160 } [.ref (xqa E.2.2 0)] WW WW σ (xrS (m_X12_latestStart n σ)) := by
  refine xMet.of0 (by decide) (Nat.le_of_ble_eq_true rfl) rfl rfl (fun X hE C => ?_)
  subst hE
  exact xMap (fun q => (some (iV q.1), q.2)) (wk_X12_latestStart C (fun _ _ => rfl) )
theorem mt_X12_latestStart : xMth yX12_latestStart cX12_latestStart 1 (some .int) 0 := ⟨wd829, wd49, ⟨by decide, by decide, rfl⟩⟩
theorem vr_X12_latestStart : xVir yX12_latestStart := ⟨wd827, wd828⟩
def m_X12_latestStartWith (n : Nat) (p1 : Int) (σ : xS) : Option (Int × xS) :=
  xj (fun (q4 : Unit) => some ((-1), σ)) fun J2 => if (zI p1) < 0 then J2 () else if (zI p1) < 5 then (m_X12_batchCount n σ).bind fun v7 => if (zI v7) = (-3) then some ((-3), σ) else (m_X1_improve n (bkA (σ 0 3)) p1 1 σ).bind fun s9 => xbS (m_X12_latestAsItIs n s9) fun v11 s10 => (m_X1_improve n (bkA (s10 0 3)) p1 (-1) s10).bind fun s12 => some (v11, s12) else J2 ()
set_option maxHeartbeats 4000000 in
set_option maxRecDepth 100000 in
theorem wk_X12_latestStartWith {X : xX} {Qf : (Int × xS) → State → Prop} {n : Nat} {p1 : Int} {σ : xS} (C : xCx X cX12_latestStartWith "BakeryNight" (some .int) { frames := 7, cells := 0, slots := 0, locals := 160 } 3) (hQ : ∀ v τ, Qf (v, τ) = xQf X WW (some (iV v), τ))  : WO X Qf WW σ 0 [(0, .ref (xqa (xXE X).2.2 0)), (1, iV p1)] [] (m_X12_latestStartWith n p1 σ) := by
  unfold m_X12_latestStartWith
  refine x_iload_n C 1 dX12_latestStartWith_0 rfl rfl ?_
  refine x_join (fun J => ∀ q4 : Unit, WO X Qf WW σ 9 [] [] (J q4)) ?_ ?_
  · intro q4
    refine x_iconst C (-1) dX12_latestStartWith_9 rfl ?_
    exact x_iretQ C (hQ _ _) rfl dX12_latestStartWith_10
  · intro J2 hJ3
    refine x_if_lt C 9 rfl dX12_latestStartWith_1 rfl (fun c5 => x_op c5 ?_) (fun c5 => x_on c5 ?_)
    · refine x_pick [] rfl ?_
      exact hJ3 ()
    · refine x_iload_n C 1 dX12_latestStartWith_4 rfl rfl ?_
      refine x_iconst C (5) dX12_latestStartWith_5 rfl ?_
      refine x_icmp_lt C 11 rfl (zIl _ rfl) dX12_latestStartWith_6 rfl (fun c6 => x_op c6 ?_) (fun c6 => x_on c6 ?_)
      · refine x_aload_n C 0 dX12_latestStartWith_11 rfl rfl ?_
        refine x_callV C (ct_X12_batchCount _ _ n σ) mt_X12_batchCount vr_X12_batchCount wd652 cls_X12 at_X12 rfl ⟨rfl, rfl, Nat.le_of_ble_eq_true rfl, Nat.le_of_ble_eq_true rfl⟩ rfl (by decide) dX12_latestStartWith_12 (kI (fun v7 => ?_))
        refine x_bipush C (-3) dX12_latestStartWith_15 rfl ?_
        refine x_icmp_ne C 23 rfl (zIl _ rfl) dX12_latestStartWith_17 rfl (fun c8 => x_on c8 ?_) (fun c8 => x_op c8 ?_)
        · refine x_aload_n C 0 dX12_latestStartWith_23 rfl rfl ?_
          refine x_get (v := .ref (xqa (xXE X).2.2 (bkA (σ 0 3)))) C 3 cls_X12 at_X12 (by decide) wd570 rfl rfl dX12_latestStartWith_24 ?_
          refine x_iload_n C 1 dX12_latestStartWith_27 rfl rfl ?_
          refine x_iconst C (1) dX12_latestStartWith_28 rfl ?_
          refine x_callV C (ct_X1_improve _ _ n (bkA (σ 0 3)) p1 1 σ (bk_A (σ 0 3))) mt_X1_improve vr_X1_improve wd1543 cls_X1 (at_X1 (bk_A (σ 0 3))) rfl ⟨rfl, rfl, Nat.le_of_ble_eq_true rfl, Nat.le_of_ble_eq_true rfl⟩ rfl (by decide) dX12_latestStartWith_29 (kV (fun s9 => ?_))
          refine x_aload_n C 0 dX12_latestStartWith_32 rfl rfl ?_
          refine x_callV C (ct_X12_latestAsItIs _ _ n s9) mt_X12_latestAsItIs vr_X12_latestAsItIs wd830 cls_X12 at_X12 rfl ⟨rfl, rfl, Nat.le_of_ble_eq_true rfl, Nat.le_of_ble_eq_true rfl⟩ rfl (by decide) dX12_latestStartWith_33 (kS (fun v11 s10 => ?_))
          refine x_istore_n (L' := [(2, _), (0, _), (1, _)]) C dX12_latestStartWith_36 rfl (by decide) rfl ?_
          refine x_aload_n C 1 dX12_latestStartWith_37 rfl rfl ?_
          refine x_get (v := .ref (xqa (xXE X).2.2 (bkA (s10 0 3)))) C 3 cls_X12 at_X12 (by decide) wd570 rfl rfl dX12_latestStartWith_38 ?_
          refine x_iload_n C 2 dX12_latestStartWith_41 rfl rfl ?_
          refine x_iconst C (-1) dX12_latestStartWith_42 rfl ?_
          refine x_callV C (ct_X1_improve _ _ n (bkA (s10 0 3)) p1 (-1) s10 (bk_A (s10 0 3))) mt_X1_improve vr_X1_improve wd1543 cls_X1 (at_X1 (bk_A (s10 0 3))) rfl ⟨rfl, rfl, Nat.le_of_ble_eq_true rfl, Nat.le_of_ble_eq_true rfl⟩ rfl (by decide) dX12_latestStartWith_43 (kV (fun s12 => ?_))
          refine x_iload_n C 0 dX12_latestStartWith_46 rfl rfl ?_
          exact x_iretQ C (hQ _ _) rfl dX12_latestStartWith_47
        · refine x_bipush C (-3) dX12_latestStartWith_20 rfl ?_
          exact x_iretQ C (hQ _ _) rfl dX12_latestStartWith_22
      · refine x_pick [] rfl ?_
        exact hJ3 ()
theorem ct_X12_latestStartWith (l : Launch) (E : xE) (n : Nat) (p1 : Int) (σ : xS)   : xMet l E yX12_latestStartWith cX12_latestStartWith 3 (some .int) { frames := 7, cells := 0, slots := 0, locals := 160 } [.ref (xqa E.2.2 0), iV p1] WW WW σ (xrS (m_X12_latestStartWith n p1 σ)) := by
  refine xMet.of0 (by decide) (Nat.le_of_ble_eq_true rfl) rfl rfl (fun X hE C => ?_)
  subst hE
  exact xMap (fun q => (some (iV q.1), q.2)) (wk_X12_latestStartWith C (fun _ _ => rfl) )
theorem mt_X12_latestStartWith : xMth yX12_latestStartWith cX12_latestStartWith 3 (some .int) 1 := ⟨wd1542, wd49, ⟨by decide, by decide, rfl⟩⟩
theorem vr_X12_latestStartWith : xVir yX12_latestStartWith := ⟨wd1540, wd1541⟩
def m_X12_vitalStreet (n : Nat) (σ : xS) : Option (Int × xS) :=
  (m_X12_batchCount n σ).bind fun v1 => if (zI v1) = (-3) then some ((-3), σ) else xbS (m_X12_latestAsItIs n σ) fun v4 s3 => xlet (-1) fun v5 => if (zI v4) = (-1) then some ((-1), s3) else loopF (fun rec8 (t7 : Int × Int × Int × xS) => if (zI (t7.2.2.2 ((bkA (s3 0 3)) + 39) 4)) ≤ (zI t7.2.2.1) then (m_X9_explore n ((bkA (s3 0 3)) + 39) (t7.2.2.2 (bkA (t7.2.2.2 0 3)) 8) (-1) t7.2.2.2).bind fun s11 => some (t7.2.1, s11) else xck (zI t7.2.2.1) 20 <| xj (fun (q15 : Int × Int × xS) => xlet (t7.2.2.1 + 1) fun v16 => rec8 (q15.1, q15.2.1, v16, q15.2.2)) fun J13 => if (zI (t7.2.2.2 (((bkA (s3 0 3)) + 39) + 4) (zI t7.2.2.1).toNat)) = 0 then (m_X9_explore n ((bkA (s3 0 3)) + 39) (t7.2.2.2 (bkA (t7.2.2.2 0 3)) 8) t7.2.2.1 t7.2.2.2).bind fun s18 => xbS (m_X8_latest n 172 (bkA (s18 0 3)) s18) fun v20 s19 => if (zI t7.1) ≤ (zI v20) then J13 (t7.1, t7.2.1, s19) else J13 (v20, t7.2.2.1, s19) else J13 (t7.1, t7.2.1, t7.2.2.2)) n (v4, v5, 0, s3)
set_option maxHeartbeats 4000000 in
set_option maxRecDepth 100000 in
theorem wk_X12_vitalStreet {X : xX} {Qf : (Int × xS) → State → Prop} {n : Nat} {σ : xS} (C : xCx X cX12_vitalStreet "BakeryNight" (some .int) { frames := 7, cells := 0, slots := 0, locals := 160 } 6) (hQ : ∀ v τ, Qf (v, τ) = xQf X WW (some (iV v), τ))  : WO X Qf WW σ 0 [(0, .ref (xqa (xXE X).2.2 0))] [] (m_X12_vitalStreet n σ) := by
  unfold m_X12_vitalStreet
  refine x_aload_n C 0 dX12_vitalStreet_0 rfl rfl ?_
  refine x_callV C (ct_X12_batchCount _ _ n σ) mt_X12_batchCount vr_X12_batchCount wd652 cls_X12 at_X12 rfl ⟨rfl, rfl, Nat.le_of_ble_eq_true rfl, Nat.le_of_ble_eq_true rfl⟩ rfl (by decide) dX12_vitalStreet_1 (kI (fun v1 => ?_))
  refine x_bipush C (-3) dX12_vitalStreet_4 rfl ?_
  refine x_icmp_ne C 12 rfl (zIl _ rfl) dX12_vitalStreet_6 rfl (fun c2 => x_on c2 ?_) (fun c2 => x_op c2 ?_)
  · refine x_aload_n C 0 dX12_vitalStreet_12 rfl rfl ?_
    refine x_callV C (ct_X12_latestAsItIs _ _ n σ) mt_X12_latestAsItIs vr_X12_latestAsItIs wd830 cls_X12 at_X12 rfl ⟨rfl, rfl, Nat.le_of_ble_eq_true rfl, Nat.le_of_ble_eq_true rfl⟩ rfl (by decide) dX12_vitalStreet_13 (kS (fun v4 s3 => ?_))
    refine x_istore_n (L' := [(1, _), (0, _)]) C dX12_vitalStreet_16 rfl (by decide) rfl ?_
    refine x_iconst C (-1) dX12_vitalStreet_17 rfl ?_
    refine x_letI (fun v5 => ?_)
    refine x_istore_n (L' := [(2, _), (1, _), (0, _)]) C dX12_vitalStreet_18 rfl (by decide) rfl ?_
    refine x_iload_n C 1 dX12_vitalStreet_19 rfl rfl ?_
    refine x_iconst C (-1) dX12_vitalStreet_20 rfl ?_
    refine x_icmp_ne C 26 rfl (zIl _ rfl) dX12_vitalStreet_21 rfl (fun c6 => x_on c6 ?_) (fun c6 => x_op c6 ?_)
    · refine x_aload_n C 2 dX12_vitalStreet_26 rfl rfl ?_
      refine x_get (v := .ref (xqa (xXE X).2.2 (bkA (s3 0 3)))) C 3 cls_X12 at_X12 (by decide) wd570 rfl rfl dX12_vitalStreet_27 ?_
      refine x_get (v := .ref (xqa (xXE X).2.2 ((bkA (s3 0 3)) + 39))) C 9 cls_X1 (at_X1 (bk_A (s3 0 3))) (by decide) wd370 rfl (xV_r (rt_X1_roads (bk_A (s3 0 3)) _) rfl) dX12_vitalStreet_30 ?_
      refine x_astore_n (L' := [(3, _), (2, _), (1, _), (0, _)]) C dX12_vitalStreet_33 rfl (by decide) rfl ?_
      refine x_iconst C (0) dX12_vitalStreet_34 rfl ?_
      refine x_istore (L' := [(4, _), (3, _), (2, _), (1, _), (0, _)]) C dX12_vitalStreet_35 (by decide) rfl ?_
      refine x_pick [4, 3, 2, 1, 0] rfl ?_
      refine x_loop (fun t7 : Int × Int × Int × xS => t7.2.2.2) (fun t7 : Int × Int × Int × xS => [(0, .ref (xqa (xXE X).2.2 0)), (1, iV t7.1), (2, iV t7.2.1), (3, .ref (xqa (xXE X).2.2 ((bkA (s3 0 3)) + 39))), (4, iV t7.2.2.1)]) (fun rec8 hr9 t7 => ?_) n (v4, v5, 0, s3)
      refine x_iload C 4 dX12_vitalStreet_37 rfl ?_
      refine x_aload_n C 3 dX12_vitalStreet_39 rfl rfl ?_
      refine x_get (v := iV (t7.2.2.2 ((bkA (s3 0 3)) + 39) 4)) C 4 cls_X9 (at_X9 (rd_bk (bk_A (s3 0 3)))) (by decide) wd288 rfl rfl dX12_vitalStreet_40 ?_
      refine x_icmp_ge C 100 rfl rfl dX12_vitalStreet_43 rfl (fun c10 => x_op c10 ?_) (fun c10 => x_on c10 ?_)
      · refine x_aload_n C 3 dX12_vitalStreet_100 rfl rfl ?_
        refine x_aload_n C 0 dX12_vitalStreet_101 rfl rfl ?_
        refine x_get (v := .ref (xqa (xXE X).2.2 (bkA (t7.2.2.2 0 3)))) C 3 cls_X12 at_X12 (by decide) wd570 rfl rfl dX12_vitalStreet_102 ?_
        refine x_get (v := iV (t7.2.2.2 (bkA (t7.2.2.2 0 3)) 8)) C 8 cls_X1 (at_X1 (bk_A (t7.2.2.2 0 3))) (by decide) wd366 rfl rfl dX12_vitalStreet_105 ?_
        refine x_iconst C (-1) dX12_vitalStreet_108 rfl ?_
        refine x_callV C (ct_X9_explore _ _ n ((bkA (s3 0 3)) + 39) (t7.2.2.2 (bkA (t7.2.2.2 0 3)) 8) (-1) t7.2.2.2 (rd_bk (bk_A (s3 0 3)))) mt_X9_explore vr_X9_explore wd1520 cls_X9 (at_X9 (rd_bk (bk_A (s3 0 3)))) rfl ⟨rfl, rfl, Nat.le_of_ble_eq_true rfl, Nat.le_of_ble_eq_true rfl⟩ rfl (by decide) dX12_vitalStreet_109 (kV (fun s11 => ?_))
        refine x_iload_n C 2 dX12_vitalStreet_112 rfl rfl ?_
        exact x_iretQ C (hQ _ _) rfl dX12_vitalStreet_113
      · refine x_aload_n C 3 dX12_vitalStreet_46 rfl rfl ?_
        refine x_get (v := .ref (xqa (xXE X).2.2 (((bkA (s3 0 3)) + 39) + 4))) C 3 cls_X9 (at_X9 (rd_bk (bk_A (s3 0 3)))) (by decide) wd284 rfl (xV_r (rt_X9_closed (rd_bk (bk_A (s3 0 3))) _) rfl) dX12_vitalStreet_47 ?_
        refine x_iload C 4 dX12_vitalStreet_50 rfl ?_
        refine x_zald C (at_X9_closed (rd_bk (bk_A (s3 0 3)))) rfl dX12_vitalStreet_52 (fun _ => ?_)
        refine x_join (fun J => ∀ q15 : Int × Int × xS, WO X Qf WW q15.2.2 94 [(0, .ref (xqa (xXE X).2.2 0)), (1, iV q15.1), (2, iV q15.2.1), (3, .ref (xqa (xXE X).2.2 ((bkA (s3 0 3)) + 39))), (4, iV t7.2.2.1)] [] (J q15)) ?_ ?_
        · intro q15
          refine x_inc C 4 (f := _) dX12_vitalStreet_94 rfl (by decide) (1) rfl (fun v16 => ?_)
          refine x_reL (L' := [(4, _), (0, _), (1, _), (2, _), (3, _)]) rfl ?_
          refine x_goto C 37 dX12_vitalStreet_97 rfl ?_
          refine x_pick [1, 2, 3, 4, 0] rfl ?_
          exact hr9 (q15.1, q15.2.1, v16, q15.2.2)
        · intro J13 hJ14
          refine x_if_ne C 94 rfl dX12_vitalStreet_53 rfl (fun c17 => x_on c17 ?_) (fun c17 => x_op c17 ?_)
          · refine x_pick [0, 1, 2, 3, 4] rfl ?_
            exact hJ14 (t7.1, t7.2.1, t7.2.2.2)
          · refine x_aload_n C 3 dX12_vitalStreet_56 rfl rfl ?_
            refine x_aload_n C 0 dX12_vitalStreet_57 rfl rfl ?_
            refine x_get (v := .ref (xqa (xXE X).2.2 (bkA (t7.2.2.2 0 3)))) C 3 cls_X12 at_X12 (by decide) wd570 rfl rfl dX12_vitalStreet_58 ?_
            refine x_get (v := iV (t7.2.2.2 (bkA (t7.2.2.2 0 3)) 8)) C 8 cls_X1 (at_X1 (bk_A (t7.2.2.2 0 3))) (by decide) wd366 rfl rfl dX12_vitalStreet_61 ?_
            refine x_iload C 4 dX12_vitalStreet_64 rfl ?_
            refine x_callV C (ct_X9_explore _ _ n ((bkA (s3 0 3)) + 39) (t7.2.2.2 (bkA (t7.2.2.2 0 3)) 8) t7.2.2.1 t7.2.2.2 (rd_bk (bk_A (s3 0 3)))) mt_X9_explore vr_X9_explore wd1520 cls_X9 (at_X9 (rd_bk (bk_A (s3 0 3)))) rfl ⟨rfl, rfl, Nat.le_of_ble_eq_true rfl, Nat.le_of_ble_eq_true rfl⟩ rfl (by decide) dX12_vitalStreet_66 (kV (fun s18 => ?_))
            refine x_aload_n C 0 dX12_vitalStreet_69 rfl rfl ?_
            refine x_get (v := .ref (xqa (xXE X).2.2 172)) C 11 cls_X12 at_X12 (by decide) wd578 rfl (xV_r (rt_X12_trialPlan  _) rfl) dX12_vitalStreet_70 ?_
            refine x_aload_n C 0 dX12_vitalStreet_73 rfl rfl ?_
            refine x_get (v := .ref (xqa (xXE X).2.2 (bkA (s18 0 3)))) C 3 cls_X12 at_X12 (by decide) wd570 rfl rfl dX12_vitalStreet_74 ?_
            refine x_callV C (ct_X8_latest _ _ n 172 (bkA (s18 0 3)) s18 (by first | exact Or.inl rfl | exact Or.inr rfl) (bk_A (s18 0 3))) mt_X8_latest vr_X8_latest wd834 cls_X8 (at_X8 (by first | exact Or.inl rfl | exact Or.inr rfl)) rfl ⟨rfl, rfl, Nat.le_of_ble_eq_true rfl, Nat.le_of_ble_eq_true rfl⟩ rfl (by decide) dX12_vitalStreet_77 (kS (fun v20 s19 => ?_))
            refine x_istore (L' := [(5, _), (0, _), (1, _), (2, _), (3, _), (4, _)]) C dX12_vitalStreet_80 (by decide) rfl ?_
            refine x_iload C 0 dX12_vitalStreet_82 rfl ?_
            refine x_iload_n C 2 dX12_vitalStreet_84 rfl rfl ?_
            refine x_icmp_ge C 94 rfl rfl dX12_vitalStreet_85 rfl (fun c21 => x_op c21 ?_) (fun c21 => x_on c21 ?_)
            · refine x_pick [1, 2, 3, 4, 5] rfl ?_
              exact hJ14 (t7.1, t7.2.1, s19)
            · refine x_iload C 0 dX12_vitalStreet_88 rfl ?_
              refine x_istore_n (L' := [(1, _), (5, _), (0, _), (2, _), (3, _), (4, _)]) C dX12_vitalStreet_90 rfl (by decide) rfl ?_
              refine x_iload C 5 dX12_vitalStreet_91 rfl ?_
              refine x_istore_n (L' := [(2, _), (1, _), (5, _), (0, _), (3, _), (4, _)]) C dX12_vitalStreet_93 rfl (by decide) rfl ?_
              refine x_pick [3, 1, 0, 4, 5] rfl ?_
              exact hJ14 (v20, t7.2.2.1, s19)
    · refine x_iconst C (-1) dX12_vitalStreet_24 rfl ?_
      exact x_iretQ C (hQ _ _) rfl dX12_vitalStreet_25
  · refine x_bipush C (-3) dX12_vitalStreet_9 rfl ?_
    exact x_iretQ C (hQ _ _) rfl dX12_vitalStreet_11
theorem ct_X12_vitalStreet (l : Launch) (E : xE) (n : Nat) (σ : xS)   : xMet l E yX12_vitalStreet cX12_vitalStreet 6 (some .int) { frames := 7, cells := 0, slots := 0, locals := 160 } [.ref (xqa E.2.2 0)] WW WW σ (xrS (m_X12_vitalStreet n σ)) := by
  refine xMet.of0 (by decide) (Nat.le_of_ble_eq_true rfl) rfl rfl (fun X hE C => ?_)
  subst hE
  exact xMap (fun q => (some (iV q.1), q.2)) (wk_X12_vitalStreet C (fun _ _ => rfl) )
theorem mt_X12_vitalStreet : xMth yX12_vitalStreet cX12_vitalStreet 6 (some .int) 0 := ⟨wd1519, wd49, ⟨by decide, by decide, rfl⟩⟩
theorem vr_X12_vitalStreet : xVir yX12_vitalStreet := ⟨wd1517, wd1518⟩
def m_X12_recordChange (p1 : Int) (p2 : Int) (p3 : Int) (σ : xS) : Option xS :=
  (m_X3_add p1 p2 p3 σ).bind fun s1 => (m_X12_dropNight s1).bind fun s2 => some s2
set_option maxHeartbeats 4000000 in
set_option maxRecDepth 100000 in
theorem wk_X12_recordChange {X : xX} {Qf : xS → State → Prop} {p1 : Int} {p2 : Int} {p3 : Int} {σ : xS} (C : xCx X cX12_recordChange "BakeryNight" none { frames := 3, cells := 0, slots := 0, locals := 83 } 4) (hQ : ∀ τ, Qf τ = xQf X WW (none, τ))  : WO X Qf WW σ 0 [(0, .ref (xqa (xXE X).2.2 0)), (1, iV p1), (2, iV p2), (3, iV p3)] [] (m_X12_recordChange p1 p2 p3 σ) := by
  unfold m_X12_recordChange
  refine x_aload_n C 0 dX12_recordChange_0 rfl rfl ?_
  refine x_get (v := .ref (xqa (xXE X).2.2 114)) C 5 cls_X12 at_X12 (by decide) wd572 rfl (xV_r (rt_X12_history  _) rfl) dX12_recordChange_1 ?_
  refine x_iload_n C 1 dX12_recordChange_4 rfl rfl ?_
  refine x_iload_n C 2 dX12_recordChange_5 rfl rfl ?_
  refine x_iload_n C 3 dX12_recordChange_6 rfl rfl ?_
  refine x_callV C (ct_X3_add _ _ p1 p2 p3 σ) mt_X3_add vr_X3_add wd1530 cls_X3 at_X3 rfl ⟨rfl, rfl, Nat.le_of_ble_eq_true rfl, Nat.le_of_ble_eq_true rfl⟩ rfl (by decide) dX12_recordChange_7 (kV (fun s1 => ?_))
  refine x_aload_n C 0 dX12_recordChange_10 rfl rfl ?_
  refine x_callV C (ct_X12_dropNight _ _ s1) mt_X12_dropNight vr_X12_dropNight wd850 cls_X12 at_X12 rfl ⟨rfl, rfl, Nat.le_of_ble_eq_true rfl, Nat.le_of_ble_eq_true rfl⟩ rfl (by decide) dX12_recordChange_11 (kV (fun s2 => ?_))
  exact x_vretQ C (hQ _) rfl dX12_recordChange_14
theorem ct_X12_recordChange (l : Launch) (E : xE) (p1 : Int) (p2 : Int) (p3 : Int) (σ : xS)   : xMet l E yX12_recordChange cX12_recordChange 4 none { frames := 3, cells := 0, slots := 0, locals := 83 } [.ref (xqa E.2.2 0), iV p1, iV p2, iV p3] WW WW σ (xrV (m_X12_recordChange p1 p2 p3 σ)) := by
  refine xMet.of0 (by decide) (Nat.le_of_ble_eq_true rfl) rfl rfl (fun X hE C => ?_)
  subst hE
  exact xMap (fun q => (none, q)) (wk_X12_recordChange C (fun _ => rfl) )
theorem mt_X12_recordChange : xMth yX12_recordChange cX12_recordChange 4 none 3 := ⟨wd1529, wd49, ⟨by decide, by decide, rfl⟩⟩
theorem vr_X12_recordChange : xVir yX12_recordChange := ⟨wd1528, wd46⟩
def m_X12_setRoom (p1 : Int) (σ : xS) : Option (Int × xS) :=
  xj (fun (q3 : Unit) => some ((-1), σ)) fun J1 => if (zI p1) < 10 then J1 () else if (zI p1) ≤ 40 then xlet (σ (bkA (σ 0 3)) 0) fun v6 => xlet (xput σ (bkA (σ 0 3)) 0 p1) fun s7 => (m_X12_recordChange 0 0 v6 s7).bind fun s8 => some (v6, s8) else J1 ()
set_option maxHeartbeats 4000000 in
set_option maxRecDepth 100000 in
theorem wk_X12_setRoom {X : xX} {Qf : (Int × xS) → State → Prop} {p1 : Int} {σ : xS} (C : xCx X cX12_setRoom "BakeryNight" (some .int) { frames := 4, cells := 0, slots := 0, locals := 106 } 3) (hQ : ∀ v τ, Qf (v, τ) = xQf X WW (some (iV v), τ))  : WO X Qf WW σ 0 [(0, .ref (xqa (xXE X).2.2 0)), (1, iV p1)] [] (m_X12_setRoom p1 σ) := by
  unfold m_X12_setRoom
  refine x_iload_n C 1 dX12_setRoom_0 rfl rfl ?_
  refine x_bipush C (10) dX12_setRoom_1 rfl ?_
  refine x_join (fun J => ∀ q3 : Unit, WO X Qf WW σ 12 [] [] (J q3)) ?_ ?_
  · intro q3
    refine x_iconst C (-1) dX12_setRoom_12 rfl ?_
    exact x_iretQ C (hQ _ _) rfl dX12_setRoom_13
  · intro J1 hJ2
    refine x_icmp_lt C 12 rfl (zIl _ rfl) dX12_setRoom_3 rfl (fun c4 => x_op c4 ?_) (fun c4 => x_on c4 ?_)
    · refine x_pick [] rfl ?_
      exact hJ2 ()
    · refine x_iload_n C 1 dX12_setRoom_6 rfl rfl ?_
      refine x_bipush C (40) dX12_setRoom_7 rfl ?_
      refine x_icmp_le C 14 rfl (zIl _ rfl) dX12_setRoom_9 rfl (fun c5 => x_op c5 ?_) (fun c5 => x_on c5 ?_)
      · refine x_aload_n C 0 dX12_setRoom_14 rfl rfl ?_
        refine x_get (v := .ref (xqa (xXE X).2.2 (bkA (σ 0 3)))) C 3 cls_X12 at_X12 (by decide) wd570 rfl rfl dX12_setRoom_15 ?_
        refine x_get (v := iV (σ (bkA (σ 0 3)) 0)) C 0 cls_X1 (at_X1 (bk_A (σ 0 3))) (by decide) wd339 rfl rfl dX12_setRoom_18 ?_
        refine x_letI (fun v6 => ?_)
        refine x_istore_n (L' := [(2, _), (0, _), (1, _)]) C dX12_setRoom_21 rfl (by decide) rfl ?_
        refine x_aload_n C 1 dX12_setRoom_22 rfl rfl ?_
        refine x_get (v := .ref (xqa (xXE X).2.2 (bkA (σ 0 3)))) C 3 cls_X12 at_X12 (by decide) wd570 rfl rfl dX12_setRoom_23 ?_
        refine x_iload_n C 2 dX12_setRoom_26 rfl rfl ?_
        refine x_put C 0 p1 cls_X1 (at_X1 (bk_A (σ 0 3))) (by decide) wd339 rfl rfl rfl rfl (xV_pI rfl) dX12_setRoom_27 ?_
        refine x_letS (fun s7 => ?_)
        refine x_aload_n C 1 dX12_setRoom_30 rfl rfl ?_
        refine x_iconst C (0) dX12_setRoom_31 rfl ?_
        refine x_iconst C (0) dX12_setRoom_32 rfl ?_
        refine x_iload_n C 0 dX12_setRoom_33 rfl rfl ?_
        refine x_callV C (ct_X12_recordChange _ _ 0 0 v6 s7) mt_X12_recordChange vr_X12_recordChange wd1526 cls_X12 at_X12 rfl ⟨rfl, rfl, Nat.le_of_ble_eq_true rfl, Nat.le_of_ble_eq_true rfl⟩ rfl (by decide) dX12_setRoom_34 (kV (fun s8 => ?_))
        refine x_iload_n C 0 dX12_setRoom_37 rfl rfl ?_
        exact x_iretQ C (hQ _ _) rfl dX12_setRoom_38
      · refine x_pick [] rfl ?_
        exact hJ2 ()
theorem ct_X12_setRoom (l : Launch) (E : xE) (p1 : Int) (σ : xS)   : xMet l E yX12_setRoom cX12_setRoom 3 (some .int) { frames := 4, cells := 0, slots := 0, locals := 106 } [.ref (xqa E.2.2 0), iV p1] WW WW σ (xrS (m_X12_setRoom p1 σ)) := by
  refine xMet.of0 (by decide) (Nat.le_of_ble_eq_true rfl) rfl rfl (fun X hE C => ?_)
  subst hE
  exact xMap (fun q => (some (iV q.1), q.2)) (wk_X12_setRoom C (fun _ _ => rfl) )
theorem mt_X12_setRoom : xMth yX12_setRoom cX12_setRoom 3 (some .int) 1 := ⟨wd1558, wd49, ⟨by decide, by decide, rfl⟩⟩
theorem vr_X12_setRoom : xVir yX12_setRoom := ⟨wd1556, wd1557⟩
def m_X12_breakOven (p1 : Int) (p2 : Int) (σ : xS) : Option (Int × xS) :=
  if (m_X1_hasOven (bkA (σ 0 3)) p1 σ) = 0 then some (0, σ) else xck (zI p1) 4 <| xlet (if (zI (σ ((bkA (σ 0 3)) + 9 + (zI p1).toNat) 3)) = 0 then 0 else 1) fun v3 => xck (zI p1) 4 <| xbo p2 <| xlet (xput σ ((bkA (σ 0 3)) + 9 + (zI p1).toNat) 3 p2) fun s6 => (m_X12_recordChange 1 p1 v3 s6).bind fun s7 => some (1, s7)
set_option maxHeartbeats 4000000 in
set_option maxRecDepth 100000 in
theorem wk_X12_breakOven {X : xX} {Qf : (Int × xS) → State → Prop} {p1 : Int} {p2 : Int} {σ : xS} (C : xCx X cX12_breakOven "BakeryNight" (some .boolean) { frames := 4, cells := 0, slots := 0, locals := 106 } 4) (hQ : ∀ v τ, Qf (v, τ) = xQf X WW (some (iV v), τ))  : WO X Qf WW σ 0 [(0, .ref (xqa (xXE X).2.2 0)), (1, iV p1), (2, iV p2)] [] (m_X12_breakOven p1 p2 σ) := by
  unfold m_X12_breakOven
  refine x_aload_n C 0 dX12_breakOven_0 rfl rfl ?_
  refine x_get (v := .ref (xqa (xXE X).2.2 (bkA (σ 0 3)))) C 3 cls_X12 at_X12 (by decide) wd570 rfl rfl dX12_breakOven_1 ?_
  refine x_iload_n C 1 dX12_breakOven_4 rfl rfl ?_
  refine x_callV C (ct_X1_hasOven _ _ (bkA (σ 0 3)) p1 σ (bk_A (σ 0 3))) mt_X1_hasOven vr_X1_hasOven wd1448 cls_X1 (at_X1 (bk_A (σ 0 3))) rfl ⟨rfl, rfl, Nat.le_of_ble_eq_true rfl, Nat.le_of_ble_eq_true rfl⟩ rfl (by decide) dX12_breakOven_5 (kP ?_)
  refine x_if_ne C 13 (zI_bo (bo_X1_hasOven _ _ _)) dX12_breakOven_8 rfl (fun c1 => x_on c1 ?_) (fun c1 => x_op c1 ?_)
  · refine x_aload_n C 0 dX12_breakOven_13 rfl rfl ?_
    refine x_get (v := .ref (xqa (xXE X).2.2 (bkA (σ 0 3)))) C 3 cls_X12 at_X12 (by decide) wd570 rfl rfl dX12_breakOven_14 ?_
    refine x_get (v := .ref (xqa (xXE X).2.2 ((bkA (σ 0 3)) + 8))) C 6 cls_X1 (at_X1 (bk_A (σ 0 3))) (by decide) wd360 rfl (xV_r (rt_X1_ovens (bk_A (σ 0 3)) _) rfl) dX12_breakOven_17 ?_
    refine x_iload_n C 1 dX12_breakOven_20 rfl rfl ?_
    refine x_aald C (at_X1_ovens (bk_A (σ 0 3))) (by decide) rfl (fun h2 => rl_X1_ovens (bk_A (σ 0 3)) _ h2) dX12_breakOven_21 (fun h2 => ?_)
    refine x_get (v := iV (σ ((bkA (σ 0 3)) + 9 + (zI p1).toNat) 3)) C 3 cls_X6 (el_X1_ovens (bk_A (σ 0 3)) h2) (by decide) wd221 rfl rfl dX12_breakOven_22 ?_
    refine x_tree 33 [] (fun v3 => ?_) (fun hJ8 => ?_)
    · refine x_istore_n (L' := [(3, _), (0, _), (1, _), (2, _)]) C dX12_breakOven_33 rfl (by decide) rfl ?_
      refine x_aload_n C 1 dX12_breakOven_34 rfl rfl ?_
      refine x_get (v := .ref (xqa (xXE X).2.2 (bkA (σ 0 3)))) C 3 cls_X12 at_X12 (by decide) wd570 rfl rfl dX12_breakOven_35 ?_
      refine x_get (v := .ref (xqa (xXE X).2.2 ((bkA (σ 0 3)) + 8))) C 6 cls_X1 (at_X1 (bk_A (σ 0 3))) (by decide) wd360 rfl (xV_r (rt_X1_ovens (bk_A (σ 0 3)) _) rfl) dX12_breakOven_38 ?_
      refine x_iload_n C 2 dX12_breakOven_41 rfl rfl ?_
      refine x_aald C (at_X1_ovens (bk_A (σ 0 3))) (by decide) rfl (fun h4 => rl_X1_ovens (bk_A (σ 0 3)) _ h4) dX12_breakOven_42 (fun h4 => ?_)
      refine x_iload_n C 3 dX12_breakOven_43 rfl rfl ?_
      refine x_bo (fun hb5 => ?_)
      refine x_put C 3 p2 cls_X6 (el_X1_ovens (bk_A (σ 0 3)) h4) (by decide) wd221 rfl rfl (xnb hb5) (xfb hb5) (xV_pI rfl) dX12_breakOven_44 ?_
      refine x_letS (fun s6 => ?_)
      refine x_aload_n C 1 dX12_breakOven_47 rfl rfl ?_
      refine x_iconst C (1) dX12_breakOven_48 rfl ?_
      refine x_iload_n C 2 dX12_breakOven_49 rfl rfl ?_
      refine x_iload_n C 0 dX12_breakOven_50 rfl rfl ?_
      refine x_callV C (ct_X12_recordChange _ _ 1 p1 v3 s6) mt_X12_recordChange vr_X12_recordChange wd1526 cls_X12 at_X12 rfl ⟨rfl, rfl, Nat.le_of_ble_eq_true rfl, Nat.le_of_ble_eq_true rfl⟩ rfl (by decide) dX12_breakOven_51 (kV (fun s7 => ?_))
      refine x_iconst C (1) dX12_breakOven_54 rfl ?_
      exact x_zretQ C (hQ _ _) rfl (Or.inr rfl) dX12_breakOven_55
    · refine x_if_eq C 32 rfl dX12_breakOven_25 rfl (fun c9 => ?_) (fun c9 => ?_)
      · refine x_iconst C (0) dX12_breakOven_32 rfl ?_
        exact hJ8 _ (by rw [if_pos c9])
      · refine x_iconst C (1) dX12_breakOven_28 rfl ?_
        refine x_goto C 33 dX12_breakOven_29 rfl ?_
        exact hJ8 _ (by rw [if_neg c9])
  · refine x_iconst C (0) dX12_breakOven_11 rfl ?_
    exact x_zretQ C (hQ _ _) rfl (Or.inl rfl) dX12_breakOven_12
theorem ct_X12_breakOven (l : Launch) (E : xE) (p1 : Int) (p2 : Int) (σ : xS)   : xMet l E yX12_breakOven cX12_breakOven 4 (some .boolean) { frames := 4, cells := 0, slots := 0, locals := 106 } [.ref (xqa E.2.2 0), iV p1, iV p2] WW WW σ (xrS (m_X12_breakOven p1 p2 σ)) := by
  refine xMet.of0 (by decide) (Nat.le_of_ble_eq_true rfl) rfl rfl (fun X hE C => ?_)
  subst hE
  exact xMap (fun q => (some (iV q.1), q.2)) (wk_X12_breakOven C (fun _ _ => rfl) )
theorem mt_X12_breakOven : xMth yX12_breakOven cX12_breakOven 4 (some .boolean) 2 := ⟨wd1575, wd49, ⟨by decide, by decide, rfl⟩⟩
theorem vr_X12_breakOven : xVir yX12_breakOven := ⟨wd1573, wd1574⟩
