def m_X1_clear (k0 : Nat) (σ : xS) : Option xS :=
  xlet (xput σ k0 0 24) fun s1 => xlet (xput s1 k0 1 30) fun s2 => xlet (xput s2 k0 2 1) fun s3 => xlet (xput s3 k0 3 1) fun s4 => xlet (xput s4 k0 5 0) fun s5 => xlet (xput s5 k0 7 0) fun s6 => xlet (xput s6 k0 8 0) fun s7 => xlet (xput s7 (k0 + 39) 4 0) fun s8 => xlet (xput s8 k0 11 0) fun s9 => xlet (xput s9 k0 13 0) fun s10 => some s10
set_option maxHeartbeats 4000000 in
set_option maxRecDepth 100000 in
theorem wk_X1_clear {X : xX} {Qf : xS → State → Prop} {k0 : Nat} {σ : xS} (C : xCx X cX1_clear "BakeryNight$Bakery" none { frames := 0, cells := 0, slots := 0, locals := 0 } 1) (hQ : ∀ τ, Qf τ = xQf X WW (none, τ)) (hk0 : isBk k0) : WO X Qf WW σ 0 [(0, .ref (xqa (xXE X).2.2 k0))] [] (m_X1_clear k0 σ) := by
  unfold m_X1_clear
  refine x_aload_n C 0 dX1_clear_0 rfl rfl ?_
  refine x_bipush C (24) dX1_clear_1 rfl ?_
  refine x_put C 0 24 cls_X1 (at_X1 hk0) (by decide) wd336 rfl rfl rfl rfl (xV_pI rfl) dX1_clear_3 ?_
  refine x_letS (fun s1 => ?_)
  refine x_aload_n C 0 dX1_clear_6 rfl rfl ?_
  refine x_bipush C (30) dX1_clear_7 rfl ?_
  refine x_put C 1 30 cls_X1 (at_X1 hk0) (by decide) wd340 rfl rfl rfl rfl (xV_pI rfl) dX1_clear_9 ?_
  refine x_letS (fun s2 => ?_)
  refine x_aload_n C 0 dX1_clear_12 rfl rfl ?_
  refine x_iconst C (1) dX1_clear_13 rfl ?_
  refine x_put C 2 1 cls_X1 (at_X1 hk0) (by decide) wd343 rfl rfl rfl rfl (xV_pI rfl) dX1_clear_14 ?_
  refine x_letS (fun s3 => ?_)
  refine x_aload_n C 0 dX1_clear_17 rfl rfl ?_
  refine x_iconst C (1) dX1_clear_18 rfl ?_
  refine x_put C 3 1 cls_X1 (at_X1 hk0) (by decide) wd346 rfl rfl rfl rfl (xV_pI rfl) dX1_clear_19 ?_
  refine x_letS (fun s4 => ?_)
  refine x_aload_n C 0 dX1_clear_22 rfl rfl ?_
  refine x_iconst C (0) dX1_clear_23 rfl ?_
  refine x_put C 5 0 cls_X1 (at_X1 hk0) (by decide) wd352 rfl rfl rfl rfl (xV_pI rfl) dX1_clear_24 ?_
  refine x_letS (fun s5 => ?_)
  refine x_aload_n C 0 dX1_clear_27 rfl rfl ?_
  refine x_iconst C (0) dX1_clear_28 rfl ?_
  refine x_put C 7 0 cls_X1 (at_X1 hk0) (by decide) wd361 rfl rfl rfl rfl (xV_pI rfl) dX1_clear_29 ?_
  refine x_letS (fun s6 => ?_)
  refine x_aload_n C 0 dX1_clear_32 rfl rfl ?_
  refine x_iconst C (0) dX1_clear_33 rfl ?_
  refine x_put C 8 0 cls_X1 (at_X1 hk0) (by decide) wd364 rfl rfl rfl rfl (xV_pI rfl) dX1_clear_34 ?_
  refine x_letS (fun s7 => ?_)
  refine x_aload_n C 0 dX1_clear_37 rfl rfl ?_
  refine x_get (v := .ref (xqa (xXE X).2.2 (k0 + 39))) C 9 cls_X1 (at_X1 hk0) (by decide) wd367 rfl (xV_r (rt_X1_roads hk0 _) rfl) dX1_clear_38 ?_
  refine x_iconst C (0) dX1_clear_41 rfl ?_
  refine x_put C 4 0 cls_X9 (at_X9 (rd_bk hk0)) (by decide) wd285 rfl rfl rfl rfl (xV_pI rfl) dX1_clear_42 ?_
  refine x_letS (fun s8 => ?_)
  refine x_aload_n C 0 dX1_clear_45 rfl rfl ?_
  refine x_iconst C (0) dX1_clear_46 rfl ?_
  refine x_put C 11 0 cls_X1 (at_X1 hk0) (by decide) wd374 rfl rfl rfl rfl (xV_pI rfl) dX1_clear_47 ?_
  refine x_letS (fun s9 => ?_)
  refine x_aload_n C 0 dX1_clear_50 rfl rfl ?_
  refine x_iconst C (0) dX1_clear_51 rfl ?_
  refine x_put C 13 0 cls_X1 (at_X1 hk0) (by decide) wd384 rfl rfl rfl rfl (xV_pI rfl) dX1_clear_52 ?_
  refine x_letS (fun s10 => ?_)
  exact x_vretQ C (hQ _) rfl dX1_clear_55
theorem ct_X1_clear (l : Launch) (E : xE) (k0 : Nat) (σ : xS) (hk0 : isBk k0)  : xMet l E yX1_clear cX1_clear 1 none { frames := 0, cells := 0, slots := 0, locals := 0 } [.ref (xqa E.2.2 k0)] WW WW σ (xrV (m_X1_clear k0 σ)) := by
  refine xMet.of0 (by decide) (Nat.le_of_ble_eq_true rfl) rfl rfl (fun X hE C => ?_)
  subst hE
  exact xMap (fun q => (none, q)) (wk_X1_clear C (fun _ => rfl) hk0)
theorem mt_X1_clear : xMth yX1_clear cX1_clear 1 none 0 := ⟨wd311, wd52, ⟨by decide, by decide, rfl⟩⟩
theorem vr_X1_clear : xVir yX1_clear := ⟨wd309, wd310⟩
def m_J7_fill_53178 (n : Nat) (k1 z1 : Nat) (p2 : Int) (σ : xS) : Option xS :=
  xlet (z1 : Int) fun v1 => loopF (fun rec3 (t2 : Int × xS) => if (zI v1) ≤ (zI t2.1) then some t2.2 else xck (zI t2.1) z1 <| xlet (xput t2.2 k1 (zI t2.1).toNat p2) fun s6 => xlet (t2.1 + 1) fun v7 => rec3 (v7, s6)) n (0, σ)
set_option maxHeartbeats 4000000 in
set_option maxRecDepth 100000 in
theorem wk_J7_fill_53178 {X : xX} {Qf : xS → State → Prop} {n : Nat} {k1 z1 : Nat} {p2 : Int} {σ : xS} (C : xCx X cJ7_fill_53178 "java/util/Arrays" none { frames := 0, cells := 0, slots := 0, locals := 0 } 4) (hQ : ∀ τ, Qf τ = xQf X WW (none, τ)) (hk1 : xAt WW k1 0 z1) : WO X Qf WW σ 0 [(0, .ref (xqa (xXE X).2.2 k1)), (1, iV p2)] [] (m_J7_fill_53178 n k1 z1 p2 σ) := by
  unfold m_J7_fill_53178
  refine x_iconst C (0) dJ7_fill_53178_0 rfl ?_
  refine x_istore_n (L' := [(2, _), (0, _), (1, _)]) C dJ7_fill_53178_1 rfl (by decide) rfl ?_
  refine x_aload_n C 1 dJ7_fill_53178_2 rfl rfl ?_
  refine x_alen C _ hk1 (by decide) (ofN _) dJ7_fill_53178_3 ?_
  refine x_letI (fun v1 => ?_)
  refine x_istore_n (L' := [(3, _), (2, _), (0, _), (1, _)]) C dJ7_fill_53178_4 rfl (by decide) rfl ?_
  refine x_pick [2, 3, 1, 0] rfl ?_
  refine x_loop (fun t2 : Int × xS => t2.2) (fun t2 : Int × xS => [(0, .ref (xqa (xXE X).2.2 k1)), (1, iV p2), (2, iV t2.1), (3, iV v1)]) (fun rec3 hr4 t2 => ?_) n (0, σ)
  refine x_iload_n C 2 dJ7_fill_53178_5 rfl rfl ?_
  refine x_iload_n C 3 dJ7_fill_53178_6 rfl rfl ?_
  refine x_icmp_ge C 20 rfl rfl dJ7_fill_53178_7 rfl (fun c5 => x_op c5 ?_) (fun c5 => x_on c5 ?_)
  · exact x_vretQ C (hQ _) rfl dJ7_fill_53178_20
  · refine x_aload_n C 0 dJ7_fill_53178_10 rfl rfl ?_
    refine x_iload_n C 2 dJ7_fill_53178_11 rfl rfl ?_
    refine x_iload_n C 1 dJ7_fill_53178_12 rfl rfl ?_
    refine x_iast C hk1 rfl dJ7_fill_53178_13 (fun _ => ?_)
    refine x_letS (fun s6 => ?_)
    refine x_inc C 2 (f := _) dJ7_fill_53178_14 rfl (by decide) (1) rfl (fun v7 => ?_)
    refine x_reL (L' := [(2, _), (0, _), (1, _), (3, _)]) rfl ?_
    refine x_goto C 5 dJ7_fill_53178_17 rfl ?_
    refine x_pick [1, 2, 0, 3] rfl ?_
    exact hr4 (v7, s6)
theorem ct_J7_fill_53178 (l : Launch) (E : xE) (n : Nat) (k1 z1 : Nat) (p2 : Int) (σ : xS) (hk1 : xAt WW k1 0 z1)  : xMet l E yJ7_fill_53178 cJ7_fill_53178 4 none { frames := 0, cells := 0, slots := 0, locals := 0 } [.ref (xqa E.2.2 k1), iV p2] WW WW σ (xrV (m_J7_fill_53178 n k1 z1 p2 σ)) := by
  refine xMet.of0 (by decide) (Nat.le_of_ble_eq_true rfl) rfl rfl (fun X hE C => ?_)
  subst hE
  exact xMap (fun q => (none, q)) (wk_J7_fill_53178 C (fun _ => rfl) hk1)
theorem mt_J7_fill_53178 : xMth yJ7_fill_53178 cJ7_fill_53178 4 none 2 := ⟨wd319, wd57, ⟨by decide, by decide, rfl⟩⟩
theorem st_J7_fill_53178 : Cond.static yJ7_fill_53178 ∈ GW := wd318
def m_X9_joinStreets (n : Nat) (k0 : Nat) (σ : xS) : Option xS :=
  loopF (fun rec2 (t1 : Int × xS) => if 8 ≤ (zI t1.1) then some t1.2 else loopF (fun rec6 (t5 : Int × xS) => if 8 ≤ (zI t5.1) then xlet (t1.1 + 1) fun v9 => rec2 (v9, t5.2) else loopF (fun rec11 (t10 : Int × xS) => if 8 ≤ (zI t10.1) then xlet (t5.1 + 1) fun v14 => rec6 (v14, t10.2) else xck (zI t5.1) 8 <| xck (zI t1.1) 8 <| xck (zI t1.1) 8 <| xck (zI t10.1) 8 <| xlet ((t10.2 (k0 + 6 + (zI t5.1).toNat) (zI t1.1).toNat) + (t10.2 (k0 + 6 + (zI t1.1).toNat) (zI t10.1).toNat)) fun v17 => xck (zI t5.1) 8 <| xck (zI t5.1) 8 <| xck (zI t10.1) 8 <| xck (zI t10.1) 8 <| xlet (xput t10.2 (k0 + 6 + (zI t5.1).toNat) (zI t10.1).toNat (zmin (t10.2 (k0 + 6 + (zI t5.1).toNat) (zI t10.1).toNat) v17)) fun s20 => xlet (t10.1 + 1) fun v21 => rec11 (v21, s20)) n (0, t5.2)) n (0, t1.2)) n (0, σ)
set_option maxHeartbeats 4000000 in
set_option maxRecDepth 100000 in
theorem wk_X9_joinStreets {X : xX} {Qf : xS → State → Prop} {n : Nat} {k0 : Nat} {σ : xS} (C : xCx X cX9_joinStreets "BakeryNight$Roads" none { frames := 1, cells := 0, slots := 0, locals := 21 } 5) (hQ : ∀ τ, Qf τ = xQf X WW (none, τ)) (hk0 : isRd k0) : WO X Qf WW σ 0 [(0, .ref (xqa (xXE X).2.2 k0))] [] (m_X9_joinStreets n k0 σ) := by
  unfold m_X9_joinStreets
  refine x_iconst C (0) dX9_joinStreets_0 rfl ?_
  refine x_istore_n (L' := [(1, _), (0, _)]) C dX9_joinStreets_1 rfl (by decide) rfl ?_
  refine x_pick [1, 0] rfl ?_
  refine x_loop (fun t1 : Int × xS => t1.2) (fun t1 : Int × xS => [(0, .ref (xqa (xXE X).2.2 k0)), (1, iV t1.1)]) (fun rec2 hr3 t1 => ?_) n (0, σ)
  refine x_iload_n C 1 dX9_joinStreets_2 rfl rfl ?_
  refine x_bipush C (8) dX9_joinStreets_3 rfl ?_
  refine x_icmp_ge C 82 rfl (zIl _ rfl) dX9_joinStreets_5 rfl (fun c4 => x_op c4 ?_) (fun c4 => x_on c4 ?_)
  · exact x_vretQ C (hQ _) rfl dX9_joinStreets_82
  · refine x_iconst C (0) dX9_joinStreets_8 rfl ?_
    refine x_istore_n (L' := [(2, _), (0, _), (1, _)]) C dX9_joinStreets_9 rfl (by decide) rfl ?_
    refine x_pick [1, 2, 0] rfl ?_
    refine x_loop (fun t5 : Int × xS => t5.2) (fun t5 : Int × xS => [(0, .ref (xqa (xXE X).2.2 k0)), (1, iV t1.1), (2, iV t5.1)]) (fun rec6 hr7 t5 => ?_) n (0, t1.2)
    refine x_iload_n C 2 dX9_joinStreets_10 rfl rfl ?_
    refine x_bipush C (8) dX9_joinStreets_11 rfl ?_
    refine x_icmp_ge C 76 rfl (zIl _ rfl) dX9_joinStreets_13 rfl (fun c8 => x_op c8 ?_) (fun c8 => x_on c8 ?_)
    · refine x_inc C 1 (f := _) dX9_joinStreets_76 rfl (by decide) (1) rfl (fun v9 => ?_)
      refine x_reL (L' := [(1, _), (0, _), (2, _)]) rfl ?_
      refine x_goto C 2 dX9_joinStreets_79 rfl ?_
      refine x_pick [1, 0] rfl ?_
      exact hr3 (v9, t5.2)
    · refine x_iconst C (0) dX9_joinStreets_16 rfl ?_
      refine x_istore_n (L' := [(3, _), (0, _), (1, _), (2, _)]) C dX9_joinStreets_17 rfl (by decide) rfl ?_
      refine x_pick [1, 2, 3, 0] rfl ?_
      refine x_loop (fun t10 : Int × xS => t10.2) (fun t10 : Int × xS => [(0, .ref (xqa (xXE X).2.2 k0)), (1, iV t1.1), (2, iV t5.1), (3, iV t10.1)]) (fun rec11 hr12 t10 => ?_) n (0, t5.2)
      refine x_iload_n C 3 dX9_joinStreets_18 rfl rfl ?_
      refine x_bipush C (8) dX9_joinStreets_19 rfl ?_
      refine x_icmp_ge C 70 rfl (zIl _ rfl) dX9_joinStreets_21 rfl (fun c13 => x_op c13 ?_) (fun c13 => x_on c13 ?_)
      · refine x_inc C 2 (f := _) dX9_joinStreets_70 rfl (by decide) (1) rfl (fun v14 => ?_)
        refine x_reL (L' := [(2, _), (0, _), (1, _), (3, _)]) rfl ?_
        refine x_goto C 10 dX9_joinStreets_73 rfl ?_
        refine x_pick [1, 2, 0] rfl ?_
        exact hr7 (v14, t10.2)
      · refine x_aload_n C 0 dX9_joinStreets_24 rfl rfl ?_
        refine x_get (v := .ref (xqa (xXE X).2.2 (k0 + 5))) C 5 cls_X9 (at_X9 hk0) (by decide) wd289 rfl (xV_r (rt_X9_shortest hk0 _) rfl) dX9_joinStreets_25 ?_
        refine x_iload_n C 2 dX9_joinStreets_28 rfl rfl ?_
        refine x_aald C (at_X9_shortest hk0) (by decide) rfl (fun h15 => rl_X9_shortest hk0 _ h15) dX9_joinStreets_29 (fun h15 => ?_)
        refine x_iload_n C 1 dX9_joinStreets_30 rfl rfl ?_
        refine x_iald C (el_X9_shortest hk0 h15) rfl dX9_joinStreets_31 (fun _ => ?_)
        refine x_aload_n C 0 dX9_joinStreets_32 rfl rfl ?_
        refine x_get (v := .ref (xqa (xXE X).2.2 (k0 + 5))) C 5 cls_X9 (at_X9 hk0) (by decide) wd289 rfl (xV_r (rt_X9_shortest hk0 _) rfl) dX9_joinStreets_33 ?_
        refine x_iload_n C 1 dX9_joinStreets_36 rfl rfl ?_
        refine x_aald C (at_X9_shortest hk0) (by decide) rfl (fun h16 => rl_X9_shortest hk0 _ h16) dX9_joinStreets_37 (fun h16 => ?_)
        refine x_iload_n C 3 dX9_joinStreets_38 rfl rfl ?_
        refine x_iald C (el_X9_shortest hk0 h16) rfl dX9_joinStreets_39 (fun _ => ?_)
        refine x_iadd C dX9_joinStreets_40 ?_
        refine x_letI (fun v17 => ?_)
        refine x_istore (L' := [(4, _), (0, _), (1, _), (2, _), (3, _)]) C dX9_joinStreets_41 (by decide) rfl ?_
        refine x_aload_n C 1 dX9_joinStreets_43 rfl rfl ?_
        refine x_get (v := .ref (xqa (xXE X).2.2 (k0 + 5))) C 5 cls_X9 (at_X9 hk0) (by decide) wd289 rfl (xV_r (rt_X9_shortest hk0 _) rfl) dX9_joinStreets_44 ?_
        refine x_iload_n C 3 dX9_joinStreets_47 rfl rfl ?_
        refine x_aald C (at_X9_shortest hk0) (by decide) rfl (fun h18 => rl_X9_shortest hk0 _ h18) dX9_joinStreets_48 (fun h18 => ?_)
        refine x_iload_n C 4 dX9_joinStreets_49 rfl rfl ?_
        refine x_aload_n C 1 dX9_joinStreets_50 rfl rfl ?_
        refine x_get (v := .ref (xqa (xXE X).2.2 (k0 + 5))) C 5 cls_X9 (at_X9 hk0) (by decide) wd289 rfl (xV_r (rt_X9_shortest hk0 _) rfl) dX9_joinStreets_51 ?_
        refine x_iload_n C 3 dX9_joinStreets_54 rfl rfl ?_
        refine x_aald C (at_X9_shortest hk0) (by decide) rfl (fun h19 => rl_X9_shortest hk0 _ h19) dX9_joinStreets_55 (fun h19 => ?_)
        refine x_iload_n C 4 dX9_joinStreets_56 rfl rfl ?_
        refine x_iald C (el_X9_shortest hk0 h19) rfl dX9_joinStreets_57 (fun _ => ?_)
        refine x_iload C 0 dX9_joinStreets_58 rfl ?_
        refine x_mmin C wd320 wd321 wd58 wd322 (Nat.le_of_ble_eq_true rfl) (Nat.le_of_ble_eq_true rfl) dX9_joinStreets_60 ?_
        refine x_iast C (el_X9_shortest hk0 h18) rfl dX9_joinStreets_63 (fun _ => ?_)
        refine x_letS (fun s20 => ?_)
        refine x_inc C 4 (f := _) dX9_joinStreets_64 rfl (by decide) (1) rfl (fun v21 => ?_)
        refine x_reL (L' := [(3, _), (4, _), (0, _), (1, _), (2, _)]) rfl ?_
        refine x_goto C 18 dX9_joinStreets_67 rfl ?_
        refine x_pick [2, 3, 4, 0] rfl ?_
        exact hr12 (v21, s20)
theorem ct_X9_joinStreets (l : Launch) (E : xE) (n : Nat) (k0 : Nat) (σ : xS) (hk0 : isRd k0)  : xMet l E yX9_joinStreets cX9_joinStreets 5 none { frames := 1, cells := 0, slots := 0, locals := 21 } [.ref (xqa E.2.2 k0)] WW WW σ (xrV (m_X9_joinStreets n k0 σ)) := by
  refine xMet.of0 (by decide) (Nat.le_of_ble_eq_true rfl) rfl rfl (fun X hE C => ?_)
  subst hE
  exact xMap (fun q => (none, q)) (wk_X9_joinStreets C (fun _ => rfl) hk0)
theorem mt_X9_joinStreets : xMth yX9_joinStreets cX9_joinStreets 5 none 0 := ⟨wd326, wd56, ⟨by decide, by decide, rfl⟩⟩
theorem vr_X9_joinStreets : xVir yX9_joinStreets := ⟨wd325, wd0⟩
def m_X9_by (k0 : Nat) (p1 : Int) (p2 : Int) (p3 : Int) (σ : xS) : Option Int :=
  xck (zI p1) 8 <| xck (zI p2) 8 <| xck (zI (((zand p3 (zxor (zshl 1 p2) (-1))) * 8) + p2)) 1024 <| some ((σ (k0 + 6 + (zI p1).toNat) (zI p2).toNat) + (σ (k0 + 14) (zI (((zand p3 (zxor (zshl 1 p2) (-1))) * 8) + p2)).toNat))
set_option maxHeartbeats 4000000 in
set_option maxRecDepth 100000 in
theorem wk_X9_by {X : xX} {Qf : Int → State → Prop} {k0 : Nat} {p1 : Int} {p2 : Int} {p3 : Int} {σ : xS} (C : xCx X cX9_by "BakeryNight$Roads" (some .int) { frames := 0, cells := 0, slots := 0, locals := 0 } 4) (hQ : ∀ v, Qf v = xQf X WW (some (iV v), σ)) (hk0 : isRd k0) : WO X Qf WW σ 0 [(0, .ref (xqa (xXE X).2.2 k0)), (1, iV p1), (2, iV p2), (3, iV p3)] [] (m_X9_by k0 p1 p2 p3 σ) := by
  unfold m_X9_by
  refine x_aload_n C 0 dX9_by_0 rfl rfl ?_
  refine x_get (v := .ref (xqa (xXE X).2.2 (k0 + 5))) C 5 cls_X9 (at_X9 hk0) (by decide) wd289 rfl (xV_r (rt_X9_shortest hk0 _) rfl) dX9_by_1 ?_
  refine x_iload_n C 1 dX9_by_4 rfl rfl ?_
  refine x_aald C (at_X9_shortest hk0) (by decide) rfl (fun h1 => rl_X9_shortest hk0 _ h1) dX9_by_5 (fun h1 => ?_)
  refine x_iload_n C 2 dX9_by_6 rfl rfl ?_
  refine x_iald C (el_X9_shortest hk0 h1) rfl dX9_by_7 (fun _ => ?_)
  refine x_aload_n C 0 dX9_by_8 rfl rfl ?_
  refine x_get (v := .ref (xqa (xXE X).2.2 (k0 + 14))) C 6 cls_X9 (at_X9 hk0) (by decide) wd290 rfl (xV_r (rt_X9_rest hk0 _) rfl) dX9_by_9 ?_
  refine x_iload_n C 3 dX9_by_12 rfl rfl ?_
  refine x_iconst C (1) dX9_by_13 rfl ?_
  refine x_iload_n C 2 dX9_by_14 rfl rfl ?_
  refine x_ishl C dX9_by_15 ?_
  refine x_iconst C (-1) dX9_by_16 rfl ?_
  refine x_ixor C dX9_by_17 ?_
  refine x_iand C dX9_by_18 ?_
  refine x_bipush C (8) dX9_by_19 rfl ?_
  refine x_imul C dX9_by_21 ?_
  refine x_iload_n C 2 dX9_by_22 rfl rfl ?_
  refine x_iadd C dX9_by_23 ?_
  refine x_iald C (at_X9_rest hk0) rfl dX9_by_24 (fun _ => ?_)
  refine x_iadd C dX9_by_25 ?_
  exact x_iretQ C (hQ _) rfl dX9_by_26
theorem ct_X9_by (l : Launch) (E : xE) (k0 : Nat) (p1 : Int) (p2 : Int) (p3 : Int) (σ : xS) (hk0 : isRd k0)  : xMet l E yX9_by cX9_by 4 (some .int) { frames := 0, cells := 0, slots := 0, locals := 0 } [.ref (xqa E.2.2 k0), iV p1, iV p2, iV p3] WW WW σ (xrI (m_X9_by k0 p1 p2 p3 σ) σ) := by
  refine xMet.of0 (by decide) (Nat.le_of_ble_eq_true rfl) rfl rfl (fun X hE C => ?_)
  subst hE
  exact xMap (fun v => (some (iV v), σ)) (wk_X9_by C (fun _ => rfl) hk0)
theorem mt_X9_by : xMth yX9_by cX9_by 4 (some .int) 3 := ⟨wd335, wd56, ⟨by decide, by decide, rfl⟩⟩
theorem vr_X9_by : xVir yX9_by := ⟨wd334, wd2⟩
def m_X9_measureRoutes (n : Nat) (k0 : Nat) (p1 : Int) (σ : xS) : Option xS :=
  loopF (fun rec2 (t1 : Int × xS) => if (zI (zshl 1 p1)) ≤ (zI t1.1) then some t1.2 else loopF (fun rec6 (t5 : Int × xS) => if 8 ≤ (zI t5.1) then xlet (t1.1 + 1) fun v9 => rec2 (v9, t5.2) else xlet (if (zI t1.1) = 0 then 0 else 8000000) fun v10 => loopF (fun rec12 (t11 : Int × Int) => if (zI p1) ≤ (zI t11.2) then xck (zI ((t1.1 * 8) + t5.1)) 1024 <| xlet (xput t5.2 (k0 + 14) (zI ((t1.1 * 8) + t5.1)).toNat t11.1) fun s15 => xlet (t5.1 + 1) fun v16 => rec6 (v16, s15) else xj (fun (q20 : Int) => xlet (t11.2 + 1) fun v21 => rec12 (q20, v21)) fun J18 => if (zI (zand (zshr t1.1 t11.2) 1)) = 0 then J18 t11.1 else (m_X9_by k0 t5.1 t11.2 t1.1 t5.2).bind fun v23 => xlet (zmin t11.1 v23) fun v24 => J18 v24) n (v10, 0)) n (0, t1.2)) n (0, σ)
set_option maxHeartbeats 4000000 in
set_option maxRecDepth 100000 in
theorem wk_X9_measureRoutes {X : xX} {Qf : xS → State → Prop} {n : Nat} {k0 : Nat} {p1 : Int} {σ : xS} (C : xCx X cX9_measureRoutes "BakeryNight$Roads" none { frames := 1, cells := 0, slots := 0, locals := 23 } 6) (hQ : ∀ τ, Qf τ = xQf X WW (none, τ)) (hk0 : isRd k0) : WO X Qf WW σ 0 [(0, .ref (xqa (xXE X).2.2 k0)), (1, iV p1)] [] (m_X9_measureRoutes n k0 p1 σ) := by
  unfold m_X9_measureRoutes
  refine x_iconst C (0) dX9_measureRoutes_0 rfl ?_
  refine x_istore_n (L' := [(2, _), (0, _), (1, _)]) C dX9_measureRoutes_1 rfl (by decide) rfl ?_
  refine x_pick [1, 2, 0] rfl ?_
  refine x_loop (fun t1 : Int × xS => t1.2) (fun t1 : Int × xS => [(0, .ref (xqa (xXE X).2.2 k0)), (1, iV p1), (2, iV t1.1)]) (fun rec2 hr3 t1 => ?_) n (0, σ)
  refine x_iload_n C 2 dX9_measureRoutes_2 rfl rfl ?_
  refine x_iconst C (1) dX9_measureRoutes_3 rfl ?_
  refine x_iload_n C 1 dX9_measureRoutes_4 rfl rfl ?_
  refine x_ishl C dX9_measureRoutes_5 ?_
  refine x_icmp_ge C 93 rfl rfl dX9_measureRoutes_6 rfl (fun c4 => x_op c4 ?_) (fun c4 => x_on c4 ?_)
  · exact x_vretQ C (hQ _) rfl dX9_measureRoutes_93
  · refine x_iconst C (0) dX9_measureRoutes_9 rfl ?_
    refine x_istore_n (L' := [(3, _), (0, _), (1, _), (2, _)]) C dX9_measureRoutes_10 rfl (by decide) rfl ?_
    refine x_pick [1, 2, 3, 0] rfl ?_
    refine x_loop (fun t5 : Int × xS => t5.2) (fun t5 : Int × xS => [(0, .ref (xqa (xXE X).2.2 k0)), (1, iV p1), (2, iV t1.1), (3, iV t5.1)]) (fun rec6 hr7 t5 => ?_) n (0, t1.2)
    refine x_iload_n C 3 dX9_measureRoutes_11 rfl rfl ?_
    refine x_bipush C (8) dX9_measureRoutes_12 rfl ?_
    refine x_icmp_ge C 87 rfl (zIl _ rfl) dX9_measureRoutes_14 rfl (fun c8 => x_op c8 ?_) (fun c8 => x_on c8 ?_)
    · refine x_inc C 2 (f := _) dX9_measureRoutes_87 rfl (by decide) (1) rfl (fun v9 => ?_)
      refine x_reL (L' := [(2, _), (0, _), (1, _), (3, _)]) rfl ?_
      refine x_goto C 2 dX9_measureRoutes_90 rfl ?_
      refine x_pick [1, 2, 0] rfl ?_
      exact hr3 (v9, t5.2)
    · refine x_iload_n C 2 dX9_measureRoutes_17 rfl rfl ?_
      refine x_tree 27 [] (fun v10 => ?_) (fun hJ25 => ?_)
      · refine x_istore (L' := [(4, _), (0, _), (1, _), (2, _), (3, _)]) C dX9_measureRoutes_27 (by decide) rfl ?_
        refine x_iconst C (0) dX9_measureRoutes_29 rfl ?_
        refine x_istore (L' := [(5, _), (4, _), (0, _), (1, _), (2, _), (3, _)]) C dX9_measureRoutes_30 (by decide) rfl ?_
        refine x_pick [2, 3, 4, 5, 1, 0] rfl ?_
        refine x_loop (fun t11 : Int × Int => t5.2) (fun t11 : Int × Int => [(0, .ref (xqa (xXE X).2.2 k0)), (1, iV p1), (2, iV t1.1), (3, iV t5.1), (4, iV t11.1), (5, iV t11.2)]) (fun rec12 hr13 t11 => ?_) n (v10, 0)
        refine x_iload C 5 dX9_measureRoutes_32 rfl ?_
        refine x_iload_n C 1 dX9_measureRoutes_34 rfl rfl ?_
        refine x_icmp_ge C 68 rfl rfl dX9_measureRoutes_35 rfl (fun c14 => x_op c14 ?_) (fun c14 => x_on c14 ?_)
        · refine x_aload_n C 0 dX9_measureRoutes_68 rfl rfl ?_
          refine x_get (v := .ref (xqa (xXE X).2.2 (k0 + 14))) C 6 cls_X9 (at_X9 hk0) (by decide) wd290 rfl (xV_r (rt_X9_rest hk0 _) rfl) dX9_measureRoutes_69 ?_
          refine x_iload_n C 2 dX9_measureRoutes_72 rfl rfl ?_
          refine x_bipush C (8) dX9_measureRoutes_73 rfl ?_
          refine x_imul C dX9_measureRoutes_75 ?_
          refine x_iload_n C 3 dX9_measureRoutes_76 rfl rfl ?_
          refine x_iadd C dX9_measureRoutes_77 ?_
          refine x_iload C 4 dX9_measureRoutes_78 rfl ?_
          refine x_iast C (at_X9_rest hk0) rfl dX9_measureRoutes_80 (fun _ => ?_)
          refine x_letS (fun s15 => ?_)
          refine x_inc C 3 (f := _) dX9_measureRoutes_81 rfl (by decide) (1) rfl (fun v16 => ?_)
          refine x_reL (L' := [(3, _), (0, _), (1, _), (2, _), (4, _), (5, _)]) rfl ?_
          refine x_goto C 11 dX9_measureRoutes_84 rfl ?_
          refine x_pick [1, 2, 3, 0] rfl ?_
          exact hr7 (v16, s15)
        · refine x_iload_n C 2 dX9_measureRoutes_38 rfl rfl ?_
          refine x_iload C 5 dX9_measureRoutes_39 rfl ?_
          refine x_ishr C dX9_measureRoutes_41 ?_
          refine x_iconst C (1) dX9_measureRoutes_42 rfl ?_
          refine x_iand C dX9_measureRoutes_43 ?_
          refine x_join (fun J => ∀ q20 : Int, WO X Qf WW t5.2 62 [(0, .ref (xqa (xXE X).2.2 k0)), (1, iV p1), (2, iV t1.1), (3, iV t5.1), (4, iV q20), (5, iV t11.2)] [] (J q20)) ?_ ?_
          · intro q20
            refine x_inc C 5 (f := _) dX9_measureRoutes_62 rfl (by decide) (1) rfl (fun v21 => ?_)
            refine x_reL (L' := [(5, _), (0, _), (1, _), (2, _), (3, _), (4, _)]) rfl ?_
            refine x_goto C 32 dX9_measureRoutes_65 rfl ?_
            refine x_pick [1, 2, 3, 4, 5, 0] rfl ?_
            exact hr13 (q20, v21)
          · intro J18 hJ19
            refine x_if_eq C 62 rfl dX9_measureRoutes_44 rfl (fun c22 => x_op c22 ?_) (fun c22 => x_on c22 ?_)
            · refine x_pick [0, 1, 2, 3, 4, 5] rfl ?_
              exact hJ19 t11.1
            · refine x_iload C 4 dX9_measureRoutes_47 rfl ?_
              refine x_aload_n C 0 dX9_measureRoutes_49 rfl rfl ?_
              refine x_iload_n C 3 dX9_measureRoutes_50 rfl rfl ?_
              refine x_iload C 5 dX9_measureRoutes_51 rfl ?_
              refine x_iload_n C 2 dX9_measureRoutes_53 rfl rfl ?_
              refine x_callV C (ct_X9_by _ _ k0 t5.1 t11.2 t1.1 t5.2 hk0) mt_X9_by vr_X9_by wd332 cls_X9 (at_X9 hk0) rfl ⟨rfl, rfl, Nat.le_of_ble_eq_true rfl, Nat.le_of_ble_eq_true rfl⟩ rfl (Nat.le_of_ble_eq_true rfl) dX9_measureRoutes_54 (kI (fun v23 => ?_))
              refine x_mmin C wd320 wd321 wd58 wd322 (Nat.le_of_ble_eq_true rfl) (Nat.le_of_ble_eq_true rfl) dX9_measureRoutes_57 ?_
              refine x_letI (fun v24 => ?_)
              refine x_istore (L' := [(4, _), (0, _), (1, _), (2, _), (3, _), (5, _)]) C dX9_measureRoutes_60 (by decide) rfl ?_
              refine x_pick [1, 2, 3, 4, 0, 5] rfl ?_
              exact hJ19 v24
      · refine x_if_ne C 25 rfl dX9_measureRoutes_18 rfl (fun c26 => ?_) (fun c26 => ?_)
        · refine x_ldc C (8000000) wd331 rfl dX9_measureRoutes_25 ?_
          exact hJ25 _ (by rw [if_neg c26])
        · refine x_iconst C (0) dX9_measureRoutes_21 rfl ?_
          refine x_goto C 27 dX9_measureRoutes_22 rfl ?_
          exact hJ25 _ (by rw [if_pos c26])
theorem ct_X9_measureRoutes (l : Launch) (E : xE) (n : Nat) (k0 : Nat) (p1 : Int) (σ : xS) (hk0 : isRd k0)  : xMet l E yX9_measureRoutes cX9_measureRoutes 6 none { frames := 1, cells := 0, slots := 0, locals := 23 } [.ref (xqa E.2.2 k0), iV p1] WW WW σ (xrV (m_X9_measureRoutes n k0 p1 σ)) := by
  refine xMet.of0 (by decide) (Nat.le_of_ble_eq_true rfl) rfl rfl (fun X hE C => ?_)
  subst hE
  exact xMap (fun q => (none, q)) (wk_X9_measureRoutes C (fun _ => rfl) hk0)
theorem mt_X9_measureRoutes : xMth yX9_measureRoutes cX9_measureRoutes 6 none 1 := ⟨wd330, wd56, ⟨by decide, by decide, rfl⟩⟩
theorem vr_X9_measureRoutes : xVir yX9_measureRoutes := ⟨wd329, wd1⟩
def m_X9_explore (n : Nat) (k0 : Nat) (p1 : Int) (p2 : Int) (σ : xS) : Option xS :=
  loopF (fun rec2 (t1 : Int × xS) => if 8 ≤ (zI t1.1) then loopF (fun rec6 (t5 : Int × xS) => if (zI (t5.2 k0 4)) ≤ (zI t5.1) then (m_X9_joinStreets n k0 t5.2).bind fun s9 => (m_X9_measureRoutes n k0 p1 s9).bind fun s10 => some s10 else xck (zI t5.1) 20 <| xj (fun (q13 : xS) => xlet (t5.1 + 1) fun v14 => rec6 (v14, q13)) fun J11 => if (zI (t5.2 (k0 + 4) (zI t5.1).toNat)) = 0 then if (zI t5.1) = (zI p2) then J11 t5.2 else xck (zI t5.1) 20 <| xck (zI t5.1) 20 <| xck (zI (t5.2 (k0 + 1) (zI t5.1).toNat)) 8 <| xck (zI t5.1) 20 <| xck (zI (t5.2 (k0 + 2) (zI t5.1).toNat)) 8 <| xlet (zmin (t5.2 (k0 + 3) (zI t5.1).toNat) (t5.2 (k0 + 6 + (zI (t5.2 (k0 + 1) (zI t5.1).toNat)).toNat) (zI (t5.2 (k0 + 2) (zI t5.1).toNat)).toNat)) fun v18 => xck (zI t5.1) 20 <| xck (zI (t5.2 (k0 + 1) (zI t5.1).toNat)) 8 <| xck (zI t5.1) 20 <| xck (zI (t5.2 (k0 + 2) (zI t5.1).toNat)) 8 <| xlet (xput t5.2 (k0 + 6 + (zI (t5.2 (k0 + 1) (zI t5.1).toNat)).toNat) (zI (t5.2 (k0 + 2) (zI t5.1).toNat)).toNat v18) fun s20 => xck (zI t5.1) 20 <| xck (zI (s20 (k0 + 2) (zI t5.1).toNat)) 8 <| xck (zI t5.1) 20 <| xck (zI (s20 (k0 + 1) (zI t5.1).toNat)) 8 <| xlet (xput s20 (k0 + 6 + (zI (s20 (k0 + 2) (zI t5.1).toNat)).toNat) (zI (s20 (k0 + 1) (zI t5.1).toNat)).toNat v18) fun s22 => J11 s22 else J11 t5.2) n (0, t1.2) else xck (zI t1.1) 8 <| (m_J7_fill_53178 n (k0 + 6 + (zI t1.1).toNat) 8 1000000 t1.2).bind fun s24 => xck (zI t1.1) 8 <| xck (zI t1.1) 8 <| xlet (xput s24 (k0 + 6 + (zI t1.1).toNat) (zI t1.1).toNat 0) fun s26 => xlet (t1.1 + 1) fun v27 => rec2 (v27, s26)) n (0, σ)
set_option maxHeartbeats 4000000 in
set_option maxRecDepth 100000 in
theorem wk_X9_explore {X : xX} {Qf : xS → State → Prop} {n : Nat} {k0 : Nat} {p1 : Int} {p2 : Int} {σ : xS} (C : xCx X cX9_explore "BakeryNight$Roads" none { frames := 2, cells := 0, slots := 0, locals := 48 } 5) (hQ : ∀ τ, Qf τ = xQf X WW (none, τ)) (hk0 : isRd k0) : WO X Qf WW σ 0 [(0, .ref (xqa (xXE X).2.2 k0)), (1, iV p1), (2, iV p2)] [] (m_X9_explore n k0 p1 p2 σ) := by
  unfold m_X9_explore
  refine x_iconst C (0) dX9_explore_0 rfl ?_
  refine x_istore_n (L' := [(3, _), (0, _), (1, _), (2, _)]) C dX9_explore_1 rfl (by decide) rfl ?_
  refine x_pick [1, 2, 3, 0] rfl ?_
  refine x_loop (fun t1 : Int × xS => t1.2) (fun t1 : Int × xS => [(0, .ref (xqa (xXE X).2.2 k0)), (1, iV p1), (2, iV p2), (3, iV t1.1)]) (fun rec2 hr3 t1 => ?_) n (0, σ)
  refine x_iload_n C 3 dX9_explore_2 rfl rfl ?_
  refine x_bipush C (8) dX9_explore_3 rfl ?_
  refine x_icmp_ge C 34 rfl (zIl _ rfl) dX9_explore_5 rfl (fun c4 => x_op c4 ?_) (fun c4 => x_on c4 ?_)
  · refine x_iconst C (0) dX9_explore_34 rfl ?_
    refine x_istore_n (L' := [(3, _), (0, _), (1, _), (2, _)]) C dX9_explore_35 rfl (by decide) rfl ?_
    refine x_pick [1, 2, 3, 0] rfl ?_
    refine x_loop (fun t5 : Int × xS => t5.2) (fun t5 : Int × xS => [(0, .ref (xqa (xXE X).2.2 k0)), (1, iV p1), (2, iV p2), (3, iV t5.1)]) (fun rec6 hr7 t5 => ?_) n (0, t1.2)
    refine x_iload_n C 3 dX9_explore_36 rfl rfl ?_
    refine x_aload_n C 0 dX9_explore_37 rfl rfl ?_
    refine x_get (v := iV (t5.2 k0 4)) C 4 cls_X9 (at_X9 hk0) (by decide) wd286 rfl rfl dX9_explore_38 ?_
    refine x_icmp_ge C 133 rfl rfl dX9_explore_41 rfl (fun c8 => x_op c8 ?_) (fun c8 => x_on c8 ?_)
    · refine x_aload_n C 0 dX9_explore_133 rfl rfl ?_
      refine x_callV C (ct_X9_joinStreets _ _ n k0 t5.2 hk0) mt_X9_joinStreets vr_X9_joinStreets wd323 cls_X9 (at_X9 hk0) rfl ⟨rfl, rfl, Nat.le_of_ble_eq_true rfl, Nat.le_of_ble_eq_true rfl⟩ rfl (by decide) dX9_explore_134 (kV (fun s9 => ?_))
      refine x_aload_n C 0 dX9_explore_137 rfl rfl ?_
      refine x_iload_n C 1 dX9_explore_138 rfl rfl ?_
      refine x_callV C (ct_X9_measureRoutes _ _ n k0 p1 s9 hk0) mt_X9_measureRoutes vr_X9_measureRoutes wd327 cls_X9 (at_X9 hk0) rfl ⟨rfl, rfl, Nat.le_of_ble_eq_true rfl, Nat.le_of_ble_eq_true rfl⟩ rfl (by decide) dX9_explore_139 (kV (fun s10 => ?_))
      exact x_vretQ C (hQ _) rfl dX9_explore_142
    · refine x_aload_n C 0 dX9_explore_44 rfl rfl ?_
      refine x_get (v := .ref (xqa (xXE X).2.2 (k0 + 4))) C 3 cls_X9 (at_X9 hk0) (by decide) wd281 rfl (xV_r (rt_X9_closed hk0 _) rfl) dX9_explore_45 ?_
      refine x_iload_n C 3 dX9_explore_48 rfl rfl ?_
      refine x_zald C (at_X9_closed hk0) rfl dX9_explore_49 (fun _ => ?_)
      refine x_join (fun J => ∀ q13 : xS, WO X Qf WW q13 127 [(0, .ref (xqa (xXE X).2.2 k0)), (1, iV p1), (2, iV p2), (3, iV t5.1)] [] (J q13)) ?_ ?_
      · intro q13
        refine x_inc C 3 (f := _) dX9_explore_127 rfl (by decide) (1) rfl (fun v14 => ?_)
        refine x_reL (L' := [(3, _), (0, _), (1, _), (2, _)]) rfl ?_
        refine x_goto C 36 dX9_explore_130 rfl ?_
        refine x_pick [1, 2, 3, 0] rfl ?_
        exact hr7 (v14, q13)
      · intro J11 hJ12
        refine x_if_ne C 127 rfl dX9_explore_50 rfl (fun c15 => x_on c15 ?_) (fun c15 => x_op c15 ?_)
        · refine x_pick [0, 1, 2, 3] rfl ?_
          exact hJ12 t5.2
        · refine x_iload_n C 3 dX9_explore_53 rfl rfl ?_
          refine x_iload_n C 2 dX9_explore_54 rfl rfl ?_
          refine x_icmp_eq C 127 rfl rfl dX9_explore_55 rfl (fun c16 => x_op c16 ?_) (fun c16 => x_on c16 ?_)
          · refine x_pick [0, 1, 2, 3] rfl ?_
            exact hJ12 t5.2
          · refine x_aload_n C 0 dX9_explore_58 rfl rfl ?_
            refine x_get (v := .ref (xqa (xXE X).2.2 (k0 + 3))) C 2 cls_X9 (at_X9 hk0) (by decide) wd279 rfl (xV_r (rt_X9_minutes hk0 _) rfl) dX9_explore_59 ?_
            refine x_iload_n C 3 dX9_explore_62 rfl rfl ?_
            refine x_iald C (at_X9_minutes hk0) rfl dX9_explore_63 (fun _ => ?_)
            refine x_aload_n C 0 dX9_explore_64 rfl rfl ?_
            refine x_get (v := .ref (xqa (xXE X).2.2 (k0 + 5))) C 5 cls_X9 (at_X9 hk0) (by decide) wd289 rfl (xV_r (rt_X9_shortest hk0 _) rfl) dX9_explore_65 ?_
            refine x_aload_n C 0 dX9_explore_68 rfl rfl ?_
            refine x_get (v := .ref (xqa (xXE X).2.2 (k0 + 1))) C 0 cls_X9 (at_X9 hk0) (by decide) wd275 rfl (xV_r (rt_X9_from hk0 _) rfl) dX9_explore_69 ?_
            refine x_iload_n C 3 dX9_explore_72 rfl rfl ?_
            refine x_iald C (at_X9_from hk0) rfl dX9_explore_73 (fun _ => ?_)
            refine x_aald C (at_X9_shortest hk0) (by decide) rfl (fun h17 => rl_X9_shortest hk0 _ h17) dX9_explore_74 (fun h17 => ?_)
            refine x_aload_n C 0 dX9_explore_75 rfl rfl ?_
            refine x_get (v := .ref (xqa (xXE X).2.2 (k0 + 2))) C 1 cls_X9 (at_X9 hk0) (by decide) wd277 rfl (xV_r (rt_X9_to hk0 _) rfl) dX9_explore_76 ?_
            refine x_iload_n C 3 dX9_explore_79 rfl rfl ?_
            refine x_iald C (at_X9_to hk0) rfl dX9_explore_80 (fun _ => ?_)
            refine x_iald C (el_X9_shortest hk0 h17) rfl dX9_explore_81 (fun _ => ?_)
            refine x_mmin C wd320 wd321 wd58 wd322 (Nat.le_of_ble_eq_true rfl) (Nat.le_of_ble_eq_true rfl) dX9_explore_82 ?_
            refine x_letI (fun v18 => ?_)
            refine x_istore (L' := [(4, _), (0, _), (1, _), (2, _), (3, _)]) C dX9_explore_85 (by decide) rfl ?_
            refine x_aload_n C 1 dX9_explore_87 rfl rfl ?_
            refine x_get (v := .ref (xqa (xXE X).2.2 (k0 + 5))) C 5 cls_X9 (at_X9 hk0) (by decide) wd289 rfl (xV_r (rt_X9_shortest hk0 _) rfl) dX9_explore_88 ?_
            refine x_aload_n C 1 dX9_explore_91 rfl rfl ?_
            refine x_get (v := .ref (xqa (xXE X).2.2 (k0 + 1))) C 0 cls_X9 (at_X9 hk0) (by decide) wd275 rfl (xV_r (rt_X9_from hk0 _) rfl) dX9_explore_92 ?_
            refine x_iload_n C 4 dX9_explore_95 rfl rfl ?_
            refine x_iald C (at_X9_from hk0) rfl dX9_explore_96 (fun _ => ?_)
            refine x_aald C (at_X9_shortest hk0) (by decide) rfl (fun h19 => rl_X9_shortest hk0 _ h19) dX9_explore_97 (fun h19 => ?_)
            refine x_aload_n C 1 dX9_explore_98 rfl rfl ?_
            refine x_get (v := .ref (xqa (xXE X).2.2 (k0 + 2))) C 1 cls_X9 (at_X9 hk0) (by decide) wd277 rfl (xV_r (rt_X9_to hk0 _) rfl) dX9_explore_99 ?_
            refine x_iload_n C 4 dX9_explore_102 rfl rfl ?_
            refine x_iald C (at_X9_to hk0) rfl dX9_explore_103 (fun _ => ?_)
            refine x_iload C 0 dX9_explore_104 rfl ?_
            refine x_iast C (el_X9_shortest hk0 h19) rfl dX9_explore_106 (fun _ => ?_)
            refine x_letS (fun s20 => ?_)
            refine x_aload_n C 1 dX9_explore_107 rfl rfl ?_
            refine x_get (v := .ref (xqa (xXE X).2.2 (k0 + 5))) C 5 cls_X9 (at_X9 hk0) (by decide) wd289 rfl (xV_r (rt_X9_shortest hk0 _) rfl) dX9_explore_108 ?_
            refine x_aload_n C 1 dX9_explore_111 rfl rfl ?_
            refine x_get (v := .ref (xqa (xXE X).2.2 (k0 + 2))) C 1 cls_X9 (at_X9 hk0) (by decide) wd277 rfl (xV_r (rt_X9_to hk0 _) rfl) dX9_explore_112 ?_
            refine x_iload_n C 4 dX9_explore_115 rfl rfl ?_
            refine x_iald C (at_X9_to hk0) rfl dX9_explore_116 (fun _ => ?_)
            refine x_aald C (at_X9_shortest hk0) (by decide) rfl (fun h21 => rl_X9_shortest hk0 _ h21) dX9_explore_117 (fun h21 => ?_)
            refine x_aload_n C 1 dX9_explore_118 rfl rfl ?_
            refine x_get (v := .ref (xqa (xXE X).2.2 (k0 + 1))) C 0 cls_X9 (at_X9 hk0) (by decide) wd275 rfl (xV_r (rt_X9_from hk0 _) rfl) dX9_explore_119 ?_
            refine x_iload_n C 4 dX9_explore_122 rfl rfl ?_
            refine x_iald C (at_X9_from hk0) rfl dX9_explore_123 (fun _ => ?_)
            refine x_iload C 0 dX9_explore_124 rfl ?_
            refine x_iast C (el_X9_shortest hk0 h21) rfl dX9_explore_126 (fun _ => ?_)
            refine x_letS (fun s22 => ?_)
            refine x_pick [1, 2, 3, 4] rfl ?_
            exact hJ12 s22
  · refine x_aload_n C 0 dX9_explore_8 rfl rfl ?_
    refine x_get (v := .ref (xqa (xXE X).2.2 (k0 + 5))) C 5 cls_X9 (at_X9 hk0) (by decide) wd289 rfl (xV_r (rt_X9_shortest hk0 _) rfl) dX9_explore_9 ?_
    refine x_iload_n C 3 dX9_explore_12 rfl rfl ?_
    refine x_aald C (at_X9_shortest hk0) (by decide) rfl (fun h23 => rl_X9_shortest hk0 _ h23) dX9_explore_13 (fun h23 => ?_)
    refine x_ldc C (1000000) wd316 rfl dX9_explore_14 ?_
    refine x_callS C (ct_J7_fill_53178 _ _ n (k0 + 6 + (zI t1.1).toNat) 8 1000000 t1.2 (el_X9_shortest hk0 h23)) mt_J7_fill_53178 st_J7_fill_53178 wd317 rfl ⟨rfl, rfl, Nat.le_of_ble_eq_true rfl, Nat.le_of_ble_eq_true rfl⟩ rfl (by decide) dX9_explore_16 (kV (fun s24 => ?_))
    refine x_aload_n C 0 dX9_explore_19 rfl rfl ?_
    refine x_get (v := .ref (xqa (xXE X).2.2 (k0 + 5))) C 5 cls_X9 (at_X9 hk0) (by decide) wd289 rfl (xV_r (rt_X9_shortest hk0 _) rfl) dX9_explore_20 ?_
    refine x_iload_n C 3 dX9_explore_23 rfl rfl ?_
    refine x_aald C (at_X9_shortest hk0) (by decide) rfl (fun h25 => rl_X9_shortest hk0 _ h25) dX9_explore_24 (fun h25 => ?_)
    refine x_iload_n C 3 dX9_explore_25 rfl rfl ?_
    refine x_iconst C (0) dX9_explore_26 rfl ?_
    refine x_iast C (el_X9_shortest hk0 h25) rfl dX9_explore_27 (fun _ => ?_)
    refine x_letS (fun s26 => ?_)
    refine x_inc C 3 (f := _) dX9_explore_28 rfl (by decide) (1) rfl (fun v27 => ?_)
    refine x_reL (L' := [(3, _), (0, _), (1, _), (2, _)]) rfl ?_
    refine x_goto C 2 dX9_explore_31 rfl ?_
    refine x_pick [1, 2, 3, 0] rfl ?_
    exact hr3 (v27, s26)
theorem ct_X9_explore (l : Launch) (E : xE) (n : Nat) (k0 : Nat) (p1 : Int) (p2 : Int) (σ : xS) (hk0 : isRd k0)  : xMet l E yX9_explore cX9_explore 5 none { frames := 2, cells := 0, slots := 0, locals := 48 } [.ref (xqa E.2.2 k0), iV p1, iV p2] WW WW σ (xrV (m_X9_explore n k0 p1 p2 σ)) := by
  refine xMet.of0 (by decide) (Nat.le_of_ble_eq_true rfl) rfl rfl (fun X hE C => ?_)
  subst hE
  exact xMap (fun q => (none, q)) (wk_X9_explore C (fun _ => rfl) hk0)
theorem mt_X9_explore : xMth yX9_explore cX9_explore 5 none 2 := ⟨wd315, wd56, ⟨by decide, by decide, rfl⟩⟩
theorem vr_X9_explore : xVir yX9_explore := ⟨wd313, wd314⟩
def m_X1_hasDough (k0 : Nat) (p1 : Int) (σ : xS) : Int := if (zI p1) < 0 then 0 else if (zI (σ k0 5)) ≤ (zI p1) then 0 else 1
set_option maxHeartbeats 4000000 in
set_option maxRecDepth 100000 in
theorem wk_X1_hasDough {X : xX} {Qf : Int → State → Prop} {k0 : Nat} {p1 : Int} {σ : xS} (C : xCx X cX1_hasDough "BakeryNight$Bakery" (some .boolean) { frames := 0, cells := 0, slots := 0, locals := 0 } 2) (hQ : ∀ v, Qf v = xQf X WW (some (iV v), σ)) (hk0 : isBk k0) : WO X Qf WW σ 0 [(0, .ref (xqa (xXE X).2.2 k0)), (1, iV p1)] [] (some (m_X1_hasDough k0 p1 σ)) := by
  refine x_iload_n C 1 dX1_hasDough_0 rfl rfl ?_
  refine x_if_lt C 16 rfl dX1_hasDough_1 rfl (fun c1 => ?_) (fun c1 => ?_)
  · refine x_iconst C (0) dX1_hasDough_16 rfl ?_
    exact x_leafR (by unfold m_X1_hasDough; rw [if_pos c1]) (x_zretQ C (hQ _) rfl (Or.inl rfl) dX1_hasDough_17)
  · refine x_iload_n C 1 dX1_hasDough_4 rfl rfl ?_
    refine x_aload_n C 0 dX1_hasDough_5 rfl rfl ?_
    refine x_get (v := iV (σ k0 5)) C 5 cls_X1 (at_X1 hk0) (by decide) wd352 rfl rfl dX1_hasDough_6 ?_
    refine x_icmp_ge C 16 rfl rfl dX1_hasDough_9 rfl (fun c2 => ?_) (fun c2 => ?_)
    · refine x_iconst C (0) dX1_hasDough_16 rfl ?_
      exact x_leafR (by unfold m_X1_hasDough; rw [if_neg c1, if_pos c2]) (x_zretQ C (hQ _) rfl (Or.inl rfl) dX1_hasDough_17)
    · refine x_iconst C (1) dX1_hasDough_12 rfl ?_
      refine x_goto C 17 dX1_hasDough_13 rfl ?_
      exact x_leafR (by unfold m_X1_hasDough; rw [if_neg c1, if_neg c2]) (x_zretQ C (hQ _) rfl (Or.inr rfl) dX1_hasDough_17)
theorem bo_X1_hasDough (k0 : Nat) (p1 : Int) (σ : xS) : m_X1_hasDough k0 p1 σ = 0 ∨ m_X1_hasDough k0 p1 σ = 1 := by
  unfold m_X1_hasDough
  repeat' split
  all_goals first | exact Or.inl rfl | exact Or.inr rfl
theorem ct_X1_hasDough (l : Launch) (E : xE) (k0 : Nat) (p1 : Int) (σ : xS) (hk0 : isBk k0)  : xMet l E yX1_hasDough cX1_hasDough 2 (some .boolean) { frames := 0, cells := 0, slots := 0, locals := 0 } [.ref (xqa E.2.2 k0), iV p1] WW WW σ (some (some (iV (m_X1_hasDough k0 p1 σ)), σ)) := by
  refine xMet.of0 (by decide) (Nat.le_of_ble_eq_true rfl) rfl rfl (fun X hE C => ?_)
  subst hE
  exact xMap (fun v => (some (iV v), σ)) (wk_X1_hasDough C (fun _ => rfl) hk0)
theorem mt_X1_hasDough : xMth yX1_hasDough cX1_hasDough 2 (some .boolean) 1 := ⟨wd1503, wd52, ⟨by decide, by decide, rfl⟩⟩
theorem vr_X1_hasDough : xVir yX1_hasDough := ⟨wd1501, wd1502⟩
def m_X1_hasOven (k0 : Nat) (p1 : Int) (σ : xS) : Int := if (zI p1) < 0 then 0 else if (zI (σ k0 7)) ≤ (zI p1) then 0 else 1
set_option maxHeartbeats 4000000 in
set_option maxRecDepth 100000 in
theorem wk_X1_hasOven {X : xX} {Qf : Int → State → Prop} {k0 : Nat} {p1 : Int} {σ : xS} (C : xCx X cX1_hasOven "BakeryNight$Bakery" (some .boolean) { frames := 0, cells := 0, slots := 0, locals := 0 } 2) (hQ : ∀ v, Qf v = xQf X WW (some (iV v), σ)) (hk0 : isBk k0) : WO X Qf WW σ 0 [(0, .ref (xqa (xXE X).2.2 k0)), (1, iV p1)] [] (some (m_X1_hasOven k0 p1 σ)) := by
  refine x_iload_n C 1 dX1_hasOven_0 rfl rfl ?_
  refine x_if_lt C 16 rfl dX1_hasOven_1 rfl (fun c1 => ?_) (fun c1 => ?_)
  · refine x_iconst C (0) dX1_hasOven_16 rfl ?_
    exact x_leafR (by unfold m_X1_hasOven; rw [if_pos c1]) (x_zretQ C (hQ _) rfl (Or.inl rfl) dX1_hasOven_17)
  · refine x_iload_n C 1 dX1_hasOven_4 rfl rfl ?_
    refine x_aload_n C 0 dX1_hasOven_5 rfl rfl ?_
    refine x_get (v := iV (σ k0 7)) C 7 cls_X1 (at_X1 hk0) (by decide) wd361 rfl rfl dX1_hasOven_6 ?_
    refine x_icmp_ge C 16 rfl rfl dX1_hasOven_9 rfl (fun c2 => ?_) (fun c2 => ?_)
    · refine x_iconst C (0) dX1_hasOven_16 rfl ?_
      exact x_leafR (by unfold m_X1_hasOven; rw [if_neg c1, if_pos c2]) (x_zretQ C (hQ _) rfl (Or.inl rfl) dX1_hasOven_17)
    · refine x_iconst C (1) dX1_hasOven_12 rfl ?_
      refine x_goto C 17 dX1_hasOven_13 rfl ?_
      exact x_leafR (by unfold m_X1_hasOven; rw [if_neg c1, if_neg c2]) (x_zretQ C (hQ _) rfl (Or.inr rfl) dX1_hasOven_17)
theorem bo_X1_hasOven (k0 : Nat) (p1 : Int) (σ : xS) : m_X1_hasOven k0 p1 σ = 0 ∨ m_X1_hasOven k0 p1 σ = 1 := by
  unfold m_X1_hasOven
  repeat' split
  all_goals first | exact Or.inl rfl | exact Or.inr rfl
theorem ct_X1_hasOven (l : Launch) (E : xE) (k0 : Nat) (p1 : Int) (σ : xS) (hk0 : isBk k0)  : xMet l E yX1_hasOven cX1_hasOven 2 (some .boolean) { frames := 0, cells := 0, slots := 0, locals := 0 } [.ref (xqa E.2.2 k0), iV p1] WW WW σ (some (some (iV (m_X1_hasOven k0 p1 σ)), σ)) := by
  refine xMet.of0 (by decide) (Nat.le_of_ble_eq_true rfl) rfl rfl (fun X hE C => ?_)
  subst hE
  exact xMap (fun v => (some (iV v), σ)) (wk_X1_hasOven C (fun _ => rfl) hk0)
theorem mt_X1_hasOven : xMth yX1_hasOven cX1_hasOven 2 (some .boolean) 1 := ⟨wd1451, wd52, ⟨by decide, by decide, rfl⟩⟩
theorem vr_X1_hasOven : xVir yX1_hasOven := ⟨wd1449, wd1450⟩
def m_X1_hasShop (k0 : Nat) (p1 : Int) (σ : xS) : Int := if (zI p1) < 0 then 0 else if (zI (σ k0 8)) ≤ (zI p1) then 0 else 1
set_option maxHeartbeats 4000000 in
set_option maxRecDepth 100000 in
theorem wk_X1_hasShop {X : xX} {Qf : Int → State → Prop} {k0 : Nat} {p1 : Int} {σ : xS} (C : xCx X cX1_hasShop "BakeryNight$Bakery" (some .boolean) { frames := 0, cells := 0, slots := 0, locals := 0 } 2) (hQ : ∀ v, Qf v = xQf X WW (some (iV v), σ)) (hk0 : isBk k0) : WO X Qf WW σ 0 [(0, .ref (xqa (xXE X).2.2 k0)), (1, iV p1)] [] (some (m_X1_hasShop k0 p1 σ)) := by
  refine x_iload_n C 1 dX1_hasShop_0 rfl rfl ?_
  refine x_if_lt C 16 rfl dX1_hasShop_1 rfl (fun c1 => ?_) (fun c1 => ?_)
  · refine x_iconst C (0) dX1_hasShop_16 rfl ?_
    exact x_leafR (by unfold m_X1_hasShop; rw [if_pos c1]) (x_zretQ C (hQ _) rfl (Or.inl rfl) dX1_hasShop_17)
  · refine x_iload_n C 1 dX1_hasShop_4 rfl rfl ?_
    refine x_aload_n C 0 dX1_hasShop_5 rfl rfl ?_
    refine x_get (v := iV (σ k0 8)) C 8 cls_X1 (at_X1 hk0) (by decide) wd364 rfl rfl dX1_hasShop_6 ?_
    refine x_icmp_ge C 16 rfl rfl dX1_hasShop_9 rfl (fun c2 => ?_) (fun c2 => ?_)
    · refine x_iconst C (0) dX1_hasShop_16 rfl ?_
      exact x_leafR (by unfold m_X1_hasShop; rw [if_neg c1, if_pos c2]) (x_zretQ C (hQ _) rfl (Or.inl rfl) dX1_hasShop_17)
    · refine x_iconst C (1) dX1_hasShop_12 rfl ?_
      refine x_goto C 17 dX1_hasShop_13 rfl ?_
      exact x_leafR (by unfold m_X1_hasShop; rw [if_neg c1, if_neg c2]) (x_zretQ C (hQ _) rfl (Or.inr rfl) dX1_hasShop_17)
theorem bo_X1_hasShop (k0 : Nat) (p1 : Int) (σ : xS) : m_X1_hasShop k0 p1 σ = 0 ∨ m_X1_hasShop k0 p1 σ = 1 := by
  unfold m_X1_hasShop
  repeat' split
  all_goals first | exact Or.inl rfl | exact Or.inr rfl
theorem ct_X1_hasShop (l : Launch) (E : xE) (k0 : Nat) (p1 : Int) (σ : xS) (hk0 : isBk k0)  : xMet l E yX1_hasShop cX1_hasShop 2 (some .boolean) { frames := 0, cells := 0, slots := 0, locals := 0 } [.ref (xqa E.2.2 k0), iV p1] WW WW σ (some (some (iV (m_X1_hasShop k0 p1 σ)), σ)) := by
  refine xMet.of0 (by decide) (Nat.le_of_ble_eq_true rfl) rfl rfl (fun X hE C => ?_)
  subst hE
  exact xMap (fun v => (some (iV v), σ)) (wk_X1_hasShop C (fun _ => rfl) hk0)
theorem mt_X1_hasShop : xMth yX1_hasShop cX1_hasShop 2 (some .boolean) 1 := ⟨wd1566, wd52, ⟨by decide, by decide, rfl⟩⟩
theorem vr_X1_hasShop : xVir yX1_hasShop := ⟨wd1564, wd1565⟩
def m_X1_hasOrder (k0 : Nat) (p1 : Int) (σ : xS) : Option Int :=
  xj (fun (q5 : Int) => xbo q5 (some q5)) fun J3 => xj (fun (q8 : Unit) => J3 0) fun J6 => if (zI p1) < 0 then J6 () else if (zI (σ k0 13)) ≤ (zI p1) then J6 () else xck (zI p1) 24 <| if (zI (σ (k0 + 14 + (zI p1).toNat) 4)) = 0 then J3 1 else J6 ()
set_option maxHeartbeats 4000000 in
set_option maxRecDepth 100000 in
theorem wk_X1_hasOrder {X : xX} {Qf : Int → State → Prop} {k0 : Nat} {p1 : Int} {σ : xS} (C : xCx X cX1_hasOrder "BakeryNight$Bakery" (some .boolean) { frames := 0, cells := 0, slots := 0, locals := 0 } 2) (hQ : ∀ v, Qf v = xQf X WW (some (iV v), σ)) (hk0 : isBk k0) : WO X Qf WW σ 0 [(0, .ref (xqa (xXE X).2.2 k0)), (1, iV p1)] [] (m_X1_hasOrder k0 p1 σ) := by
  unfold m_X1_hasOrder
  refine x_iload_n C 1 dX1_hasOrder_0 rfl rfl ?_
  refine x_join (fun J => ∀ q5 : Int, WO X Qf WW σ 29 [] [iV q5] (J q5)) ?_ ?_
  · intro q5
    exact x_bo (fun hb => x_zretQ C (hQ _) rfl hb dX1_hasOrder_29)
  · intro J3 hJ4
    refine x_join (fun J => ∀ q8 : Unit, WO X Qf WW σ 28 [] [] (J q8)) ?_ ?_
    · intro q8
      refine x_iconst C (0) dX1_hasOrder_28 rfl ?_
      refine x_pick [] rfl ?_
      exact hJ4 0
    · intro J6 hJ7
      refine x_if_lt C 28 rfl dX1_hasOrder_1 rfl (fun c9 => x_op c9 ?_) (fun c9 => x_on c9 ?_)
      · refine x_pick [] rfl ?_
        exact hJ7 ()
      · refine x_iload_n C 1 dX1_hasOrder_4 rfl rfl ?_
        refine x_aload_n C 0 dX1_hasOrder_5 rfl rfl ?_
        refine x_get (v := iV (σ k0 13)) C 13 cls_X1 (at_X1 hk0) (by decide) wd384 rfl rfl dX1_hasOrder_6 ?_
        refine x_icmp_ge C 28 rfl rfl dX1_hasOrder_9 rfl (fun c10 => x_op c10 ?_) (fun c10 => x_on c10 ?_)
        · refine x_pick [] rfl ?_
          exact hJ7 ()
        · refine x_aload_n C 0 dX1_hasOrder_12 rfl rfl ?_
          refine x_get (v := .ref (xqa (xXE X).2.2 (k0 + 13))) C 12 cls_X1 (at_X1 hk0) (by decide) wd377 rfl (xV_r (rt_X1_orders hk0 _) rfl) dX1_hasOrder_13 ?_
          refine x_iload_n C 1 dX1_hasOrder_16 rfl rfl ?_
          refine x_aald C (at_X1_orders hk0) (by decide) rfl (fun h11 => rl_X1_orders hk0 _ h11) dX1_hasOrder_17 (fun h11 => ?_)
          refine x_get (v := iV (σ (k0 + 14 + (zI p1).toNat) 4)) C 4 cls_X5 (el_X1_orders hk0 h11) (by decide) wd254 rfl rfl dX1_hasOrder_18 ?_
          refine x_if_ne C 28 rfl dX1_hasOrder_21 rfl (fun c12 => x_on c12 ?_) (fun c12 => x_op c12 ?_)
          · refine x_pick [] rfl ?_
            exact hJ7 ()
          · refine x_iconst C (1) dX1_hasOrder_24 rfl ?_
            refine x_goto C 29 dX1_hasOrder_25 rfl ?_
            refine x_pick [] rfl ?_
            exact hJ4 1
theorem ct_X1_hasOrder (l : Launch) (E : xE) (k0 : Nat) (p1 : Int) (σ : xS) (hk0 : isBk k0)  : xMet l E yX1_hasOrder cX1_hasOrder 2 (some .boolean) { frames := 0, cells := 0, slots := 0, locals := 0 } [.ref (xqa E.2.2 k0), iV p1] WW WW σ (xrI (m_X1_hasOrder k0 p1 σ) σ) := by
  refine xMet.of0 (by decide) (Nat.le_of_ble_eq_true rfl) rfl rfl (fun X hE C => ?_)
  subst hE
  exact xMap (fun v => (some (iV v), σ)) (wk_X1_hasOrder C (fun _ => rfl) hk0)
theorem mt_X1_hasOrder : xMth yX1_hasOrder cX1_hasOrder 2 (some .boolean) 1 := ⟨wd631, wd52, ⟨by decide, by decide, rfl⟩⟩
theorem vr_X1_hasOrder : xVir yX1_hasOrder := ⟨wd629, wd630⟩
def m_X1_allShops (k0 : Nat) (σ : xS) : Int := (zshl 1 (σ k0 8)) - 1
set_option maxHeartbeats 4000000 in
set_option maxRecDepth 100000 in
theorem wk_X1_allShops {X : xX} {Qf : Int → State → Prop} {k0 : Nat} {σ : xS} (C : xCx X cX1_allShops "BakeryNight$Bakery" (some .int) { frames := 0, cells := 0, slots := 0, locals := 0 } 1) (hQ : ∀ v, Qf v = xQf X WW (some (iV v), σ)) (hk0 : isBk k0) : WO X Qf WW σ 0 [(0, .ref (xqa (xXE X).2.2 k0))] [] (some (m_X1_allShops k0 σ)) := by
  refine x_iconst C (1) dX1_allShops_0 rfl ?_
  refine x_aload_n C 0 dX1_allShops_1 rfl rfl ?_
  refine x_get (v := iV (σ k0 8)) C 8 cls_X1 (at_X1 hk0) (by decide) wd364 rfl rfl dX1_allShops_2 ?_
  refine x_ishl C dX1_allShops_5 ?_
  refine x_iconst C (1) dX1_allShops_6 rfl ?_
  refine x_isub C dX1_allShops_7 ?_
  exact x_leafR rfl (x_iretQ C (hQ _) rfl dX1_allShops_8)
theorem ct_X1_allShops (l : Launch) (E : xE) (k0 : Nat) (σ : xS) (hk0 : isBk k0)  : xMet l E yX1_allShops cX1_allShops 1 (some .int) { frames := 0, cells := 0, slots := 0, locals := 0 } [.ref (xqa E.2.2 k0)] WW WW σ (some (some (iV (m_X1_allShops k0 σ)), σ)) := by
  refine xMet.of0 (by decide) (Nat.le_of_ble_eq_true rfl) rfl rfl (fun X hE C => ?_)
  subst hE
  exact xMap (fun v => (some (iV v), σ)) (wk_X1_allShops C (fun _ => rfl) hk0)
theorem mt_X1_allShops : xMth yX1_allShops cX1_allShops 1 (some .int) 0 := ⟨wd642, wd52, ⟨by decide, by decide, rfl⟩⟩
theorem vr_X1_allShops : xVir yX1_allShops := ⟨wd640, wd641⟩
def m_X12_dividedUp (p1 : Int) (p2 : Int) (σ : xS) : Option Int :=
  xj (fun (q3 : Int) => some q3) fun J1 => if 0 < (zI p2) then xnz (zI p2) <| J1 ((zI ((p1 + p2) - 1)).tdiv (zI p2)) else J1 0
set_option maxHeartbeats 4000000 in
set_option maxRecDepth 100000 in
theorem wk_X12_dividedUp {X : xX} {Qf : Int → State → Prop} {p1 : Int} {p2 : Int} {σ : xS} (C : xCx X cX12_dividedUp "BakeryNight" (some .int) { frames := 0, cells := 0, slots := 0, locals := 0 } 2) (hQ : ∀ v, Qf v = xQf X WW (some (iV v), σ))  : WO X Qf WW σ 0 [(0, iV p1), (1, iV p2)] [] (m_X12_dividedUp p1 p2 σ) := by
  unfold m_X12_dividedUp
  refine x_iload_n C 1 dX12_dividedUp_0 rfl rfl ?_
  refine x_join (fun J => ∀ q3 : Int, WO X Qf WW σ 15 [] [iV q3] (J q3)) ?_ ?_
  · intro q3
    exact x_iretQ C (hQ _) rfl dX12_dividedUp_15
  · intro J1 hJ2
    refine x_if_gt C 8 rfl dX12_dividedUp_1 rfl (fun c4 => x_op c4 ?_) (fun c4 => x_on c4 ?_)
    · refine x_iload_n C 0 dX12_dividedUp_8 rfl rfl ?_
      refine x_iload_n C 1 dX12_dividedUp_9 rfl rfl ?_
      refine x_iadd C dX12_dividedUp_10 ?_
      refine x_iconst C (1) dX12_dividedUp_11 rfl ?_
      refine x_isub C dX12_dividedUp_12 ?_
      refine x_iload_n C 1 dX12_dividedUp_13 rfl rfl ?_
      refine x_idiv C dX12_dividedUp_14 ?_
      refine x_pick [] rfl ?_
      exact hJ2 ((zI ((p1 + p2) - 1)).tdiv (zI p2))
    · refine x_iconst C (0) dX12_dividedUp_4 rfl ?_
      refine x_goto C 15 dX12_dividedUp_5 rfl ?_
      refine x_pick [] rfl ?_
      exact hJ2 0
theorem ct_X12_dividedUp (l : Launch) (E : xE) (p1 : Int) (p2 : Int) (σ : xS)   : xMet l E yX12_dividedUp cX12_dividedUp 2 (some .int) { frames := 0, cells := 0, slots := 0, locals := 0 } [iV p1, iV p2] WW WW σ (xrI (m_X12_dividedUp p1 p2 σ) σ) := by
  refine xMet.of0 (by decide) (Nat.le_of_ble_eq_true rfl) rfl rfl (fun X hE C => ?_)
  subst hE
  exact xMap (fun v => (some (iV v), σ)) (wk_X12_dividedUp C (fun _ => rfl) )
theorem mt_X12_dividedUp : xMth yX12_dividedUp cX12_dividedUp 2 (some .int) 2 := ⟨wd634, wd49, ⟨by decide, by decide, rfl⟩⟩
theorem st_X12_dividedUp : Cond.static yX12_dividedUp ∈ GW := wd633
def m_X1_inThisRoom (k0 : Nat) (p1 : Int) (σ : xS) : Option Int :=
  (m_X12_dividedUp (p1 * 24) (σ k0 0) σ).bind fun v1 => some v1
set_option maxHeartbeats 4000000 in
set_option maxRecDepth 100000 in
theorem wk_X1_inThisRoom {X : xX} {Qf : Int → State → Prop} {k0 : Nat} {p1 : Int} {σ : xS} (C : xCx X cX1_inThisRoom "BakeryNight$Bakery" (some .int) { frames := 1, cells := 0, slots := 0, locals := 21 } 2) (hQ : ∀ v, Qf v = xQf X WW (some (iV v), σ)) (hk0 : isBk k0) : WO X Qf WW σ 0 [(0, .ref (xqa (xXE X).2.2 k0)), (1, iV p1)] [] (m_X1_inThisRoom k0 p1 σ) := by
  unfold m_X1_inThisRoom
  refine x_iload_n C 1 dX1_inThisRoom_0 rfl rfl ?_
  refine x_bipush C (24) dX1_inThisRoom_1 rfl ?_
  refine x_imul C dX1_inThisRoom_3 ?_
  refine x_aload_n C 0 dX1_inThisRoom_4 rfl rfl ?_
  refine x_get (v := iV (σ k0 0)) C 0 cls_X1 (at_X1 hk0) (by decide) wd336 rfl rfl dX1_inThisRoom_5 ?_
  refine x_callSN C (ct_X12_dividedUp _ _ (p1 * 24) (σ k0 0) σ) mt_X12_dividedUp st_X12_dividedUp nw3 rfl ⟨rfl, rfl, Nat.le_of_ble_eq_true rfl, Nat.le_of_ble_eq_true rfl⟩ rfl (by decide) dX1_inThisRoom_8 (kI (fun v1 => ?_))
  exact x_iretQ C (hQ _) rfl dX1_inThisRoom_11
theorem ct_X1_inThisRoom (l : Launch) (E : xE) (k0 : Nat) (p1 : Int) (σ : xS) (hk0 : isBk k0)  : xMet l E yX1_inThisRoom cX1_inThisRoom 2 (some .int) { frames := 1, cells := 0, slots := 0, locals := 21 } [.ref (xqa E.2.2 k0), iV p1] WW WW σ (xrI (m_X1_inThisRoom k0 p1 σ) σ) := by
  refine xMet.of0 (by decide) (Nat.le_of_ble_eq_true rfl) rfl rfl (fun X hE C => ?_)
  subst hE
  exact xMap (fun v => (some (iV v), σ)) (wk_X1_inThisRoom C (fun _ => rfl) hk0)
theorem mt_X1_inThisRoom : xMth yX1_inThisRoom cX1_inThisRoom 2 (some .int) 1 := ⟨wd720, wd52, ⟨by decide, by decide, rfl⟩⟩
theorem vr_X1_inThisRoom : xVir yX1_inThisRoom := ⟨wd718, wd719⟩
def m_X1_loavesOf (n : Nat) (k0 : Nat) (p1 : Int) (σ : xS) : Option Int :=
  loopF (fun rec2 (t1 : Int × Int) => if (zI (σ k0 13)) ≤ (zI t1.2) then some t1.1 else (m_X1_hasOrder k0 t1.2 σ).bind fun v5 => xj (fun (q9 : Int) => xlet (t1.2 + 1) fun v10 => rec2 (q9, v10)) fun J7 => if (zI v5) = 0 then J7 t1.1 else xck (zI t1.2) 24 <| if (zI (σ (k0 + 14 + (zI t1.2).toNat) 1)) = (zI p1) then xck (zI t1.2) 24 <| xlet (t1.1 + (σ (k0 + 14 + (zI t1.2).toNat) 2)) fun v15 => J7 v15 else J7 t1.1) n (0, 0)
set_option maxHeartbeats 4000000 in
set_option maxRecDepth 100000 in
theorem wk_X1_loavesOf {X : xX} {Qf : Int → State → Prop} {n : Nat} {k0 : Nat} {p1 : Int} {σ : xS} (C : xCx X cX1_loavesOf "BakeryNight$Bakery" (some .int) { frames := 1, cells := 0, slots := 0, locals := 21 } 4) (hQ : ∀ v, Qf v = xQf X WW (some (iV v), σ)) (hk0 : isBk k0) : WO X Qf WW σ 0 [(0, .ref (xqa (xXE X).2.2 k0)), (1, iV p1)] [] (m_X1_loavesOf n k0 p1 σ) := by
  unfold m_X1_loavesOf
  refine x_iconst C (0) dX1_loavesOf_0 rfl ?_
  refine x_istore_n (L' := [(2, _), (0, _), (1, _)]) C dX1_loavesOf_1 rfl (by decide) rfl ?_
  refine x_iconst C (0) dX1_loavesOf_2 rfl ?_
  refine x_istore_n (L' := [(3, _), (2, _), (0, _), (1, _)]) C dX1_loavesOf_3 rfl (by decide) rfl ?_
  refine x_pick [2, 3, 1, 0] rfl ?_
  refine x_loop (fun t1 : Int × Int => σ) (fun t1 : Int × Int => [(0, .ref (xqa (xXE X).2.2 k0)), (1, iV p1), (2, iV t1.1), (3, iV t1.2)]) (fun rec2 hr3 t1 => ?_) n (0, 0)
  refine x_iload_n C 3 dX1_loavesOf_4 rfl rfl ?_
  refine x_aload_n C 0 dX1_loavesOf_5 rfl rfl ?_
  refine x_get (v := iV (σ k0 13)) C 13 cls_X1 (at_X1 hk0) (by decide) wd384 rfl rfl dX1_loavesOf_6 ?_
  refine x_icmp_ge C 51 rfl rfl dX1_loavesOf_9 rfl (fun c4 => x_op c4 ?_) (fun c4 => x_on c4 ?_)
  · refine x_iload_n C 2 dX1_loavesOf_51 rfl rfl ?_
    exact x_iretQ C (hQ _) rfl dX1_loavesOf_52
  · refine x_aload_n C 0 dX1_loavesOf_12 rfl rfl ?_
    refine x_iload_n C 3 dX1_loavesOf_13 rfl rfl ?_
    refine x_callV C (ct_X1_hasOrder _ _ k0 t1.2 σ hk0) mt_X1_hasOrder vr_X1_hasOrder wd628 cls_X1 (at_X1 hk0) rfl ⟨rfl, rfl, Nat.le_of_ble_eq_true rfl, Nat.le_of_ble_eq_true rfl⟩ rfl (by decide) dX1_loavesOf_14 (kI (fun v5 => ?_))
    refine x_join (fun J => ∀ q9 : Int, WO X Qf WW σ 45 [(0, .ref (xqa (xXE X).2.2 k0)), (1, iV p1), (2, iV q9), (3, iV t1.2)] [] (J q9)) ?_ ?_
    · intro q9
      refine x_inc C 3 (f := _) dX1_loavesOf_45 rfl (by decide) (1) rfl (fun v10 => ?_)
      refine x_reL (L' := [(3, _), (0, _), (1, _), (2, _)]) rfl ?_
      refine x_goto C 4 dX1_loavesOf_48 rfl ?_
      refine x_pick [1, 2, 3, 0] rfl ?_
      exact hr3 (q9, v10)
    · intro J7 hJ8
      refine x_if_eq C 45 rfl dX1_loavesOf_17 rfl (fun c11 => x_op c11 ?_) (fun c11 => x_on c11 ?_)
      · refine x_pick [0, 1, 2, 3] rfl ?_
        exact hJ8 t1.1
      · refine x_aload_n C 0 dX1_loavesOf_20 rfl rfl ?_
        refine x_get (v := .ref (xqa (xXE X).2.2 (k0 + 13))) C 12 cls_X1 (at_X1 hk0) (by decide) wd377 rfl (xV_r (rt_X1_orders hk0 _) rfl) dX1_loavesOf_21 ?_
        refine x_iload_n C 3 dX1_loavesOf_24 rfl rfl ?_
        refine x_aald C (at_X1_orders hk0) (by decide) rfl (fun h12 => rl_X1_orders hk0 _ h12) dX1_loavesOf_25 (fun h12 => ?_)
        refine x_get (v := iV (σ (k0 + 14 + (zI t1.2).toNat) 1)) C 1 cls_X5 (el_X1_orders hk0 h12) (by decide) wd241 rfl rfl dX1_loavesOf_26 ?_
        refine x_iload_n C 1 dX1_loavesOf_29 rfl rfl ?_
        refine x_icmp_ne C 45 rfl rfl dX1_loavesOf_30 rfl (fun c13 => x_on c13 ?_) (fun c13 => x_op c13 ?_)
        · refine x_pick [0, 1, 2, 3] rfl ?_
          exact hJ8 t1.1
        · refine x_iload_n C 2 dX1_loavesOf_33 rfl rfl ?_
          refine x_aload_n C 0 dX1_loavesOf_34 rfl rfl ?_
          refine x_get (v := .ref (xqa (xXE X).2.2 (k0 + 13))) C 12 cls_X1 (at_X1 hk0) (by decide) wd377 rfl (xV_r (rt_X1_orders hk0 _) rfl) dX1_loavesOf_35 ?_
          refine x_iload_n C 3 dX1_loavesOf_38 rfl rfl ?_
          refine x_aald C (at_X1_orders hk0) (by decide) rfl (fun h14 => rl_X1_orders hk0 _ h14) dX1_loavesOf_39 (fun h14 => ?_)
          refine x_get (v := iV (σ (k0 + 14 + (zI t1.2).toNat) 2)) C 2 cls_X5 (el_X1_orders hk0 h14) (by decide) wd245 rfl rfl dX1_loavesOf_40 ?_
          refine x_iadd C dX1_loavesOf_43 ?_
          refine x_letI (fun v15 => ?_)
          refine x_istore_n (L' := [(2, _), (0, _), (1, _), (3, _)]) C dX1_loavesOf_44 rfl (by decide) rfl ?_
          refine x_pick [1, 2, 0, 3] rfl ?_
          exact hJ8 v15
theorem ct_X1_loavesOf (l : Launch) (E : xE) (n : Nat) (k0 : Nat) (p1 : Int) (σ : xS) (hk0 : isBk k0)  : xMet l E yX1_loavesOf cX1_loavesOf 4 (some .int) { frames := 1, cells := 0, slots := 0, locals := 21 } [.ref (xqa E.2.2 k0), iV p1] WW WW σ (xrI (m_X1_loavesOf n k0 p1 σ) σ) := by
  refine xMet.of0 (by decide) (Nat.le_of_ble_eq_true rfl) rfl rfl (fun X hE C => ?_)
  subst hE
  exact xMap (fun v => (some (iV v), σ)) (wk_X1_loavesOf C (fun _ => rfl) hk0)
theorem mt_X1_loavesOf : xMth yX1_loavesOf cX1_loavesOf 4 (some .int) 1 := ⟨wd627, wd52, ⟨by decide, by decide, rfl⟩⟩
theorem vr_X1_loavesOf : xVir yX1_loavesOf := ⟨wd625, wd626⟩
def m_X1_batchesOf (n : Nat) (k0 : Nat) (p1 : Int) (σ : xS) : Option Int :=
  (m_X1_loavesOf n k0 p1 σ).bind fun v1 => xck (zI p1) 6 <| (m_X12_dividedUp v1 (σ (k0 + 2 + (zI p1).toNat) 7) σ).bind fun v3 => some v3
set_option maxHeartbeats 4000000 in
set_option maxRecDepth 100000 in
theorem wk_X1_batchesOf {X : xX} {Qf : Int → State → Prop} {n : Nat} {k0 : Nat} {p1 : Int} {σ : xS} (C : xCx X cX1_batchesOf "BakeryNight$Bakery" (some .int) { frames := 2, cells := 0, slots := 0, locals := 44 } 2) (hQ : ∀ v, Qf v = xQf X WW (some (iV v), σ)) (hk0 : isBk k0) : WO X Qf WW σ 0 [(0, .ref (xqa (xXE X).2.2 k0)), (1, iV p1)] [] (m_X1_batchesOf n k0 p1 σ) := by
  unfold m_X1_batchesOf
  refine x_aload_n C 0 dX1_batchesOf_0 rfl rfl ?_
  refine x_iload_n C 1 dX1_batchesOf_1 rfl rfl ?_
  refine x_callV C (ct_X1_loavesOf _ _ n k0 p1 σ hk0) mt_X1_loavesOf vr_X1_loavesOf wd624 cls_X1 (at_X1 hk0) rfl ⟨rfl, rfl, Nat.le_of_ble_eq_true rfl, Nat.le_of_ble_eq_true rfl⟩ rfl (by decide) dX1_batchesOf_2 (kI (fun v1 => ?_))
  refine x_aload_n C 0 dX1_batchesOf_5 rfl rfl ?_
  refine x_get (v := .ref (xqa (xXE X).2.2 (k0 + 1))) C 4 cls_X1 (at_X1 hk0) (by decide) wd349 rfl (xV_r (rt_X1_doughs hk0 _) rfl) dX1_batchesOf_6 ?_
  refine x_iload_n C 1 dX1_batchesOf_9 rfl rfl ?_
  refine x_aald C (at_X1_doughs hk0) (by decide) rfl (fun h2 => rl_X1_doughs hk0 _ h2) dX1_batchesOf_10 (fun h2 => ?_)
  refine x_get (v := iV (σ (k0 + 2 + (zI p1).toNat) 7)) C 7 cls_X2 (el_X1_doughs hk0 h2) (by decide) wd177 rfl rfl dX1_batchesOf_11 ?_
  refine x_callSN C (ct_X12_dividedUp _ _ v1 (σ (k0 + 2 + (zI p1).toNat) 7) σ) mt_X12_dividedUp st_X12_dividedUp nw3 rfl ⟨rfl, rfl, Nat.le_of_ble_eq_true rfl, Nat.le_of_ble_eq_true rfl⟩ rfl (by decide) dX1_batchesOf_14 (kI (fun v3 => ?_))
  exact x_iretQ C (hQ _) rfl dX1_batchesOf_17
theorem ct_X1_batchesOf (l : Launch) (E : xE) (n : Nat) (k0 : Nat) (p1 : Int) (σ : xS) (hk0 : isBk k0)  : xMet l E yX1_batchesOf cX1_batchesOf 2 (some .int) { frames := 2, cells := 0, slots := 0, locals := 44 } [.ref (xqa E.2.2 k0), iV p1] WW WW σ (xrI (m_X1_batchesOf n k0 p1 σ) σ) := by
  refine xMet.of0 (by decide) (Nat.le_of_ble_eq_true rfl) rfl rfl (fun X hE C => ?_)
  subst hE
  exact xMap (fun v => (some (iV v), σ)) (wk_X1_batchesOf C (fun _ => rfl) hk0)
theorem mt_X1_batchesOf : xMth yX1_batchesOf cX1_batchesOf 2 (some .int) 1 := ⟨wd623, wd52, ⟨by decide, by decide, rfl⟩⟩
theorem vr_X1_batchesOf : xVir yX1_batchesOf := ⟨wd621, wd622⟩
def m_X1_batchesNeeded (n : Nat) (k0 : Nat) (σ : xS) : Option Int :=
  loopF (fun rec2 (t1 : Int × Int) => if (zI (σ k0 5)) ≤ (zI t1.2) then some t1.1 else (m_X1_batchesOf n k0 t1.2 σ).bind fun v5 => xlet (t1.1 + v5) fun v6 => xlet (t1.2 + 1) fun v7 => rec2 (v6, v7)) n (0, 0)
set_option maxHeartbeats 4000000 in
set_option maxRecDepth 100000 in
theorem wk_X1_batchesNeeded {X : xX} {Qf : Int → State → Prop} {n : Nat} {k0 : Nat} {σ : xS} (C : xCx X cX1_batchesNeeded "BakeryNight$Bakery" (some .int) { frames := 3, cells := 0, slots := 0, locals := 65 } 3) (hQ : ∀ v, Qf v = xQf X WW (some (iV v), σ)) (hk0 : isBk k0) : WO X Qf WW σ 0 [(0, .ref (xqa (xXE X).2.2 k0))] [] (m_X1_batchesNeeded n k0 σ) := by
  unfold m_X1_batchesNeeded
  refine x_iconst C (0) dX1_batchesNeeded_0 rfl ?_
  refine x_istore_n (L' := [(1, _), (0, _)]) C dX1_batchesNeeded_1 rfl (by decide) rfl ?_
  refine x_iconst C (0) dX1_batchesNeeded_2 rfl ?_
  refine x_istore_n (L' := [(2, _), (1, _), (0, _)]) C dX1_batchesNeeded_3 rfl (by decide) rfl ?_
  refine x_pick [2, 1, 0] rfl ?_
  refine x_loop (fun t1 : Int × Int => σ) (fun t1 : Int × Int => [(0, .ref (xqa (xXE X).2.2 k0)), (1, iV t1.1), (2, iV t1.2)]) (fun rec2 hr3 t1 => ?_) n (0, 0)
  refine x_iload_n C 2 dX1_batchesNeeded_4 rfl rfl ?_
  refine x_aload_n C 0 dX1_batchesNeeded_5 rfl rfl ?_
  refine x_get (v := iV (σ k0 5)) C 5 cls_X1 (at_X1 hk0) (by decide) wd352 rfl rfl dX1_batchesNeeded_6 ?_
  refine x_icmp_ge C 26 rfl rfl dX1_batchesNeeded_9 rfl (fun c4 => x_op c4 ?_) (fun c4 => x_on c4 ?_)
  · refine x_iload_n C 1 dX1_batchesNeeded_26 rfl rfl ?_
    exact x_iretQ C (hQ _) rfl dX1_batchesNeeded_27
  · refine x_iload_n C 1 dX1_batchesNeeded_12 rfl rfl ?_
    refine x_aload_n C 0 dX1_batchesNeeded_13 rfl rfl ?_
    refine x_iload_n C 2 dX1_batchesNeeded_14 rfl rfl ?_
    refine x_callV C (ct_X1_batchesOf _ _ n k0 t1.2 σ hk0) mt_X1_batchesOf vr_X1_batchesOf wd620 cls_X1 (at_X1 hk0) rfl ⟨rfl, rfl, Nat.le_of_ble_eq_true rfl, Nat.le_of_ble_eq_true rfl⟩ rfl (Nat.le_of_ble_eq_true rfl) dX1_batchesNeeded_15 (kI (fun v5 => ?_))
    refine x_iadd C dX1_batchesNeeded_18 ?_
    refine x_letI (fun v6 => ?_)
    refine x_istore_n (L' := [(1, _), (0, _), (2, _)]) C dX1_batchesNeeded_19 rfl (by decide) rfl ?_
    refine x_inc C 2 (f := _) dX1_batchesNeeded_20 rfl (by decide) (1) rfl (fun v7 => ?_)
    refine x_reL (L' := [(2, _), (1, _), (0, _)]) rfl ?_
    refine x_goto C 4 dX1_batchesNeeded_23 rfl ?_
    refine x_pick [2, 1, 0] rfl ?_
    exact hr3 (v6, v7)
theorem ct_X1_batchesNeeded (l : Launch) (E : xE) (n : Nat) (k0 : Nat) (σ : xS) (hk0 : isBk k0)  : xMet l E yX1_batchesNeeded cX1_batchesNeeded 3 (some .int) { frames := 3, cells := 0, slots := 0, locals := 65 } [.ref (xqa E.2.2 k0)] WW WW σ (xrI (m_X1_batchesNeeded n k0 σ) σ) := by
  refine xMet.of0 (by decide) (Nat.le_of_ble_eq_true rfl) rfl rfl (fun X hE C => ?_)
  subst hE
  exact xMap (fun v => (some (iV v), σ)) (wk_X1_batchesNeeded C (fun _ => rfl) hk0)
theorem mt_X1_batchesNeeded : xMth yX1_batchesNeeded cX1_batchesNeeded 3 (some .int) 0 := ⟨wd619, wd52, ⟨by decide, by decide, rfl⟩⟩
theorem vr_X1_batchesNeeded : xVir yX1_batchesNeeded := ⟨wd617, wd618⟩
def m_X1_dueOf (n : Nat) (k0 : Nat) (p1 : Int) (σ : xS) : Option Int :=
  loopF (fun rec2 (t1 : Int × Int) => if (zI (σ k0 13)) ≤ (zI t1.2) then some t1.1 else (m_X1_hasOrder k0 t1.2 σ).bind fun v5 => xj (fun (q9 : Int) => xlet (t1.2 + 1) fun v10 => rec2 (q9, v10)) fun J7 => if (zI v5) = 0 then J7 t1.1 else xck (zI t1.2) 24 <| if (zI (σ (k0 + 14 + (zI t1.2).toNat) 1)) = (zI p1) then xck (zI t1.2) 24 <| xlet (zmin t1.1 (σ (k0 + 14 + (zI t1.2).toNat) 3)) fun v15 => J7 v15 else J7 t1.1) n (1440, 0)
set_option maxHeartbeats 4000000 in
set_option maxRecDepth 100000 in
theorem wk_X1_dueOf {X : xX} {Qf : Int → State → Prop} {n : Nat} {k0 : Nat} {p1 : Int} {σ : xS} (C : xCx X cX1_dueOf "BakeryNight$Bakery" (some .int) { frames := 1, cells := 0, slots := 0, locals := 21 } 4) (hQ : ∀ v, Qf v = xQf X WW (some (iV v), σ)) (hk0 : isBk k0) : WO X Qf WW σ 0 [(0, .ref (xqa (xXE X).2.2 k0)), (1, iV p1)] [] (m_X1_dueOf n k0 p1 σ) := by
  unfold m_X1_dueOf
  refine x_sipush C (1440) dX1_dueOf_0 rfl ?_
  refine x_istore_n (L' := [(2, _), (0, _), (1, _)]) C dX1_dueOf_3 rfl (by decide) rfl ?_
  refine x_iconst C (0) dX1_dueOf_4 rfl ?_
  refine x_istore_n (L' := [(3, _), (2, _), (0, _), (1, _)]) C dX1_dueOf_5 rfl (by decide) rfl ?_
  refine x_pick [2, 3, 1, 0] rfl ?_
  refine x_loop (fun t1 : Int × Int => σ) (fun t1 : Int × Int => [(0, .ref (xqa (xXE X).2.2 k0)), (1, iV p1), (2, iV t1.1), (3, iV t1.2)]) (fun rec2 hr3 t1 => ?_) n (1440, 0)
  refine x_iload_n C 3 dX1_dueOf_6 rfl rfl ?_
  refine x_aload_n C 0 dX1_dueOf_7 rfl rfl ?_
  refine x_get (v := iV (σ k0 13)) C 13 cls_X1 (at_X1 hk0) (by decide) wd384 rfl rfl dX1_dueOf_8 ?_
  refine x_icmp_ge C 55 rfl rfl dX1_dueOf_11 rfl (fun c4 => x_op c4 ?_) (fun c4 => x_on c4 ?_)
  · refine x_iload_n C 2 dX1_dueOf_55 rfl rfl ?_
    exact x_iretQ C (hQ _) rfl dX1_dueOf_56
  · refine x_aload_n C 0 dX1_dueOf_14 rfl rfl ?_
    refine x_iload_n C 3 dX1_dueOf_15 rfl rfl ?_
    refine x_callV C (ct_X1_hasOrder _ _ k0 t1.2 σ hk0) mt_X1_hasOrder vr_X1_hasOrder wd628 cls_X1 (at_X1 hk0) rfl ⟨rfl, rfl, Nat.le_of_ble_eq_true rfl, Nat.le_of_ble_eq_true rfl⟩ rfl (by decide) dX1_dueOf_16 (kI (fun v5 => ?_))
    refine x_join (fun J => ∀ q9 : Int, WO X Qf WW σ 49 [(0, .ref (xqa (xXE X).2.2 k0)), (1, iV p1), (2, iV q9), (3, iV t1.2)] [] (J q9)) ?_ ?_
    · intro q9
      refine x_inc C 3 (f := _) dX1_dueOf_49 rfl (by decide) (1) rfl (fun v10 => ?_)
      refine x_reL (L' := [(3, _), (0, _), (1, _), (2, _)]) rfl ?_
      refine x_goto C 6 dX1_dueOf_52 rfl ?_
      refine x_pick [1, 2, 3, 0] rfl ?_
      exact hr3 (q9, v10)
    · intro J7 hJ8
      refine x_if_eq C 49 rfl dX1_dueOf_19 rfl (fun c11 => x_op c11 ?_) (fun c11 => x_on c11 ?_)
      · refine x_pick [0, 1, 2, 3] rfl ?_
        exact hJ8 t1.1
      · refine x_aload_n C 0 dX1_dueOf_22 rfl rfl ?_
        refine x_get (v := .ref (xqa (xXE X).2.2 (k0 + 13))) C 12 cls_X1 (at_X1 hk0) (by decide) wd377 rfl (xV_r (rt_X1_orders hk0 _) rfl) dX1_dueOf_23 ?_
        refine x_iload_n C 3 dX1_dueOf_26 rfl rfl ?_
        refine x_aald C (at_X1_orders hk0) (by decide) rfl (fun h12 => rl_X1_orders hk0 _ h12) dX1_dueOf_27 (fun h12 => ?_)
        refine x_get (v := iV (σ (k0 + 14 + (zI t1.2).toNat) 1)) C 1 cls_X5 (el_X1_orders hk0 h12) (by decide) wd241 rfl rfl dX1_dueOf_28 ?_
        refine x_iload_n C 1 dX1_dueOf_31 rfl rfl ?_
        refine x_icmp_ne C 49 rfl rfl dX1_dueOf_32 rfl (fun c13 => x_on c13 ?_) (fun c13 => x_op c13 ?_)
        · refine x_pick [0, 1, 2, 3] rfl ?_
          exact hJ8 t1.1
        · refine x_iload_n C 2 dX1_dueOf_35 rfl rfl ?_
          refine x_aload_n C 0 dX1_dueOf_36 rfl rfl ?_
          refine x_get (v := .ref (xqa (xXE X).2.2 (k0 + 13))) C 12 cls_X1 (at_X1 hk0) (by decide) wd377 rfl (xV_r (rt_X1_orders hk0 _) rfl) dX1_dueOf_37 ?_
          refine x_iload_n C 3 dX1_dueOf_40 rfl rfl ?_
          refine x_aald C (at_X1_orders hk0) (by decide) rfl (fun h14 => rl_X1_orders hk0 _ h14) dX1_dueOf_41 (fun h14 => ?_)
          refine x_get (v := iV (σ (k0 + 14 + (zI t1.2).toNat) 3)) C 3 cls_X5 (el_X1_orders hk0 h14) (by decide) wd250 rfl rfl dX1_dueOf_42 ?_
          refine x_mmin C wd670 wd321 wd58 wd322 (Nat.le_of_ble_eq_true rfl) (Nat.le_of_ble_eq_true rfl) dX1_dueOf_45 ?_
          refine x_letI (fun v15 => ?_)
          refine x_istore_n (L' := [(2, _), (0, _), (1, _), (3, _)]) C dX1_dueOf_48 rfl (by decide) rfl ?_
          refine x_pick [1, 2, 0, 3] rfl ?_
          exact hJ8 v15
theorem ct_X1_dueOf (l : Launch) (E : xE) (n : Nat) (k0 : Nat) (p1 : Int) (σ : xS) (hk0 : isBk k0)  : xMet l E yX1_dueOf cX1_dueOf 4 (some .int) { frames := 1, cells := 0, slots := 0, locals := 21 } [.ref (xqa E.2.2 k0), iV p1] WW WW σ (xrI (m_X1_dueOf n k0 p1 σ) σ) := by
  refine xMet.of0 (by decide) (Nat.le_of_ble_eq_true rfl) rfl rfl (fun X hE C => ?_)
  subst hE
  exact xMap (fun v => (some (iV v), σ)) (wk_X1_dueOf C (fun _ => rfl) hk0)
theorem mt_X1_dueOf : xMth yX1_dueOf cX1_dueOf 4 (some .int) 1 := ⟨wd669, wd52, ⟨by decide, by decide, rfl⟩⟩
theorem vr_X1_dueOf : xVir yX1_dueOf := ⟨wd667, wd668⟩
def m_X1_comesBefore (k0 : Nat) (p1 : Int) (p2 : Int) (σ : xS) : Option Int :=
  xck (zI p1) 24 <| xck (zI p2) 24 <| xlet ((σ (k0 + 14 + (zI p1).toNat) 3) - (σ (k0 + 14 + (zI p2).toNat) 3)) fun v3 => xlet (if (zI v3) < 0 then 1 else if (zI v3) = 0 then if (zI p2) ≤ (zI p1) then 0 else 1 else 0) fun v4 => xbo v4 (some v4)
set_option maxHeartbeats 4000000 in
set_option maxRecDepth 100000 in
theorem wk_X1_comesBefore {X : xX} {Qf : Int → State → Prop} {k0 : Nat} {p1 : Int} {p2 : Int} {σ : xS} (C : xCx X cX1_comesBefore "BakeryNight$Bakery" (some .boolean) { frames := 0, cells := 0, slots := 0, locals := 0 } 4) (hQ : ∀ v, Qf v = xQf X WW (some (iV v), σ)) (hk0 : isBk k0) : WO X Qf WW σ 0 [(0, .ref (xqa (xXE X).2.2 k0)), (1, iV p1), (2, iV p2)] [] (m_X1_comesBefore k0 p1 p2 σ) := by
  unfold m_X1_comesBefore
  refine x_aload_n C 0 dX1_comesBefore_0 rfl rfl ?_
  refine x_get (v := .ref (xqa (xXE X).2.2 (k0 + 13))) C 12 cls_X1 (at_X1 hk0) (by decide) wd377 rfl (xV_r (rt_X1_orders hk0 _) rfl) dX1_comesBefore_1 ?_
  refine x_iload_n C 1 dX1_comesBefore_4 rfl rfl ?_
  refine x_aald C (at_X1_orders hk0) (by decide) rfl (fun h1 => rl_X1_orders hk0 _ h1) dX1_comesBefore_5 (fun h1 => ?_)
  refine x_get (v := iV (σ (k0 + 14 + (zI p1).toNat) 3)) C 3 cls_X5 (el_X1_orders hk0 h1) (by decide) wd250 rfl rfl dX1_comesBefore_6 ?_
  refine x_aload_n C 0 dX1_comesBefore_9 rfl rfl ?_
  refine x_get (v := .ref (xqa (xXE X).2.2 (k0 + 13))) C 12 cls_X1 (at_X1 hk0) (by decide) wd377 rfl (xV_r (rt_X1_orders hk0 _) rfl) dX1_comesBefore_10 ?_
  refine x_iload_n C 2 dX1_comesBefore_13 rfl rfl ?_
  refine x_aald C (at_X1_orders hk0) (by decide) rfl (fun h2 => rl_X1_orders hk0 _ h2) dX1_comesBefore_14 (fun h2 => ?_)
  refine x_get (v := iV (σ (k0 + 14 + (zI p2).toNat) 3)) C 3 cls_X5 (el_X1_orders hk0 h2) (by decide) wd250 rfl rfl dX1_comesBefore_15 ?_
  refine x_isub C dX1_comesBefore_18 ?_
  refine x_letI (fun v3 => ?_)
  refine x_istore_n (L' := [(3, _), (0, _), (1, _), (2, _)]) C dX1_comesBefore_19 rfl (by decide) rfl ?_
  refine x_iload_n C 0 dX1_comesBefore_20 rfl rfl ?_
  refine x_tree 38 [] (fun v4 => ?_) (fun hJ5 => ?_)
  · exact x_bo (fun hb => x_zretQ C (hQ _) rfl hb dX1_comesBefore_38)
  · refine x_if_lt C 33 rfl dX1_comesBefore_21 rfl (fun c6 => ?_) (fun c6 => ?_)
    · refine x_iconst C (1) dX1_comesBefore_33 rfl ?_
      refine x_goto C 38 dX1_comesBefore_34 rfl ?_
      exact hJ5 _ (by rw [if_pos c6])
    · refine x_iload_n C 0 dX1_comesBefore_24 rfl rfl ?_
      refine x_if_ne C 37 rfl dX1_comesBefore_25 rfl (fun c7 => ?_) (fun c7 => ?_)
      · refine x_iconst C (0) dX1_comesBefore_37 rfl ?_
        exact hJ5 _ (by rw [if_neg c6, if_neg c7])
      · refine x_iload_n C 2 dX1_comesBefore_28 rfl rfl ?_
        refine x_iload_n C 3 dX1_comesBefore_29 rfl rfl ?_
        refine x_icmp_ge C 37 rfl rfl dX1_comesBefore_30 rfl (fun c8 => ?_) (fun c8 => ?_)
        · refine x_iconst C (0) dX1_comesBefore_37 rfl ?_
          exact hJ5 _ (by rw [if_neg c6, if_pos c7, if_pos c8])
        · refine x_iconst C (1) dX1_comesBefore_33 rfl ?_
          refine x_goto C 38 dX1_comesBefore_34 rfl ?_
          exact hJ5 _ (by rw [if_neg c6, if_pos c7, if_neg c8])
theorem ct_X1_comesBefore (l : Launch) (E : xE) (k0 : Nat) (p1 : Int) (p2 : Int) (σ : xS) (hk0 : isBk k0)  : xMet l E yX1_comesBefore cX1_comesBefore 4 (some .boolean) { frames := 0, cells := 0, slots := 0, locals := 0 } [.ref (xqa E.2.2 k0), iV p1, iV p2] WW WW σ (xrI (m_X1_comesBefore k0 p1 p2 σ) σ) := by
  refine xMet.of0 (by decide) (Nat.le_of_ble_eq_true rfl) rfl rfl (fun X hE C => ?_)
  subst hE
  exact xMap (fun v => (some (iV v), σ)) (wk_X1_comesBefore C (fun _ => rfl) hk0)
theorem mt_X1_comesBefore : xMth yX1_comesBefore cX1_comesBefore 4 (some .boolean) 2 := ⟨wd747, wd52, ⟨by decide, by decide, rfl⟩⟩
theorem vr_X1_comesBefore : xVir yX1_comesBefore := ⟨wd746, wd15⟩
def m_X1_loavesAheadOf (n : Nat) (k0 : Nat) (p1 : Int) (σ : xS) : Option Int :=
  loopF (fun rec2 (t1 : Int × Int) => if (zI (σ k0 13)) ≤ (zI t1.2) then some t1.1 else (m_X1_hasOrder k0 t1.2 σ).bind fun v5 => xj (fun (q9 : Int) => xlet (t1.2 + 1) fun v10 => rec2 (q9, v10)) fun J7 => if (zI v5) = 0 then J7 t1.1 else xck (zI t1.2) 24 <| xck (zI p1) 24 <| if (zI (σ (k0 + 14 + (zI t1.2).toNat) 1)) = (zI (σ (k0 + 14 + (zI p1).toNat) 1)) then (m_X1_comesBefore k0 t1.2 p1 σ).bind fun v15 => if (zI v15) = 0 then J7 t1.1 else xck (zI t1.2) 24 <| xlet (t1.1 + (σ (k0 + 14 + (zI t1.2).toNat) 2)) fun v18 => J7 v18 else J7 t1.1) n (0, 0)
set_option maxHeartbeats 4000000 in
set_option maxRecDepth 100000 in
theorem wk_X1_loavesAheadOf {X : xX} {Qf : Int → State → Prop} {n : Nat} {k0 : Nat} {p1 : Int} {σ : xS} (C : xCx X cX1_loavesAheadOf "BakeryNight$Bakery" (some .int) { frames := 1, cells := 0, slots := 0, locals := 23 } 4) (hQ : ∀ v, Qf v = xQf X WW (some (iV v), σ)) (hk0 : isBk k0) : WO X Qf WW σ 0 [(0, .ref (xqa (xXE X).2.2 k0)), (1, iV p1)] [] (m_X1_loavesAheadOf n k0 p1 σ) := by
  unfold m_X1_loavesAheadOf
  refine x_iconst C (0) dX1_loavesAheadOf_0 rfl ?_
  refine x_istore_n (L' := [(2, _), (0, _), (1, _)]) C dX1_loavesAheadOf_1 rfl (by decide) rfl ?_
  refine x_iconst C (0) dX1_loavesAheadOf_2 rfl ?_
  refine x_istore_n (L' := [(3, _), (2, _), (0, _), (1, _)]) C dX1_loavesAheadOf_3 rfl (by decide) rfl ?_
  refine x_pick [2, 3, 1, 0] rfl ?_
  refine x_loop (fun t1 : Int × Int => σ) (fun t1 : Int × Int => [(0, .ref (xqa (xXE X).2.2 k0)), (1, iV p1), (2, iV t1.1), (3, iV t1.2)]) (fun rec2 hr3 t1 => ?_) n (0, 0)
  refine x_iload_n C 3 dX1_loavesAheadOf_4 rfl rfl ?_
  refine x_aload_n C 0 dX1_loavesAheadOf_5 rfl rfl ?_
  refine x_get (v := iV (σ k0 13)) C 13 cls_X1 (at_X1 hk0) (by decide) wd384 rfl rfl dX1_loavesAheadOf_6 ?_
  refine x_icmp_ge C 68 rfl rfl dX1_loavesAheadOf_9 rfl (fun c4 => x_op c4 ?_) (fun c4 => x_on c4 ?_)
  · refine x_iload_n C 2 dX1_loavesAheadOf_68 rfl rfl ?_
    exact x_iretQ C (hQ _) rfl dX1_loavesAheadOf_69
  · refine x_aload_n C 0 dX1_loavesAheadOf_12 rfl rfl ?_
    refine x_iload_n C 3 dX1_loavesAheadOf_13 rfl rfl ?_
    refine x_callV C (ct_X1_hasOrder _ _ k0 t1.2 σ hk0) mt_X1_hasOrder vr_X1_hasOrder wd628 cls_X1 (at_X1 hk0) rfl ⟨rfl, rfl, Nat.le_of_ble_eq_true rfl, Nat.le_of_ble_eq_true rfl⟩ rfl (by decide) dX1_loavesAheadOf_14 (kI (fun v5 => ?_))
    refine x_join (fun J => ∀ q9 : Int, WO X Qf WW σ 62 [(0, .ref (xqa (xXE X).2.2 k0)), (1, iV p1), (2, iV q9), (3, iV t1.2)] [] (J q9)) ?_ ?_
    · intro q9
      refine x_inc C 3 (f := _) dX1_loavesAheadOf_62 rfl (by decide) (1) rfl (fun v10 => ?_)
      refine x_reL (L' := [(3, _), (0, _), (1, _), (2, _)]) rfl ?_
      refine x_goto C 4 dX1_loavesAheadOf_65 rfl ?_
      refine x_pick [1, 2, 3, 0] rfl ?_
      exact hr3 (q9, v10)
    · intro J7 hJ8
      refine x_if_eq C 62 rfl dX1_loavesAheadOf_17 rfl (fun c11 => x_op c11 ?_) (fun c11 => x_on c11 ?_)
      · refine x_pick [0, 1, 2, 3] rfl ?_
        exact hJ8 t1.1
      · refine x_aload_n C 0 dX1_loavesAheadOf_20 rfl rfl ?_
        refine x_get (v := .ref (xqa (xXE X).2.2 (k0 + 13))) C 12 cls_X1 (at_X1 hk0) (by decide) wd377 rfl (xV_r (rt_X1_orders hk0 _) rfl) dX1_loavesAheadOf_21 ?_
        refine x_iload_n C 3 dX1_loavesAheadOf_24 rfl rfl ?_
        refine x_aald C (at_X1_orders hk0) (by decide) rfl (fun h12 => rl_X1_orders hk0 _ h12) dX1_loavesAheadOf_25 (fun h12 => ?_)
        refine x_get (v := iV (σ (k0 + 14 + (zI t1.2).toNat) 1)) C 1 cls_X5 (el_X1_orders hk0 h12) (by decide) wd241 rfl rfl dX1_loavesAheadOf_26 ?_
        refine x_aload_n C 0 dX1_loavesAheadOf_29 rfl rfl ?_
        refine x_get (v := .ref (xqa (xXE X).2.2 (k0 + 13))) C 12 cls_X1 (at_X1 hk0) (by decide) wd377 rfl (xV_r (rt_X1_orders hk0 _) rfl) dX1_loavesAheadOf_30 ?_
        refine x_iload_n C 1 dX1_loavesAheadOf_33 rfl rfl ?_
        refine x_aald C (at_X1_orders hk0) (by decide) rfl (fun h13 => rl_X1_orders hk0 _ h13) dX1_loavesAheadOf_34 (fun h13 => ?_)
        refine x_get (v := iV (σ (k0 + 14 + (zI p1).toNat) 1)) C 1 cls_X5 (el_X1_orders hk0 h13) (by decide) wd241 rfl rfl dX1_loavesAheadOf_35 ?_
        refine x_icmp_ne C 62 rfl rfl dX1_loavesAheadOf_38 rfl (fun c14 => x_on c14 ?_) (fun c14 => x_op c14 ?_)
        · refine x_pick [0, 1, 2, 3] rfl ?_
          exact hJ8 t1.1
        · refine x_aload_n C 0 dX1_loavesAheadOf_41 rfl rfl ?_
          refine x_iload_n C 3 dX1_loavesAheadOf_42 rfl rfl ?_
          refine x_iload_n C 1 dX1_loavesAheadOf_43 rfl rfl ?_
          refine x_callV C (ct_X1_comesBefore _ _ k0 t1.2 p1 σ hk0) mt_X1_comesBefore vr_X1_comesBefore wd744 cls_X1 (at_X1 hk0) rfl ⟨rfl, rfl, Nat.le_of_ble_eq_true rfl, Nat.le_of_ble_eq_true rfl⟩ rfl (by decide) dX1_loavesAheadOf_44 (kI (fun v15 => ?_))
          refine x_if_eq C 62 rfl dX1_loavesAheadOf_47 rfl (fun c16 => x_op c16 ?_) (fun c16 => x_on c16 ?_)
          · refine x_pick [0, 1, 2, 3] rfl ?_
            exact hJ8 t1.1
          · refine x_iload_n C 2 dX1_loavesAheadOf_50 rfl rfl ?_
            refine x_aload_n C 0 dX1_loavesAheadOf_51 rfl rfl ?_
            refine x_get (v := .ref (xqa (xXE X).2.2 (k0 + 13))) C 12 cls_X1 (at_X1 hk0) (by decide) wd377 rfl (xV_r (rt_X1_orders hk0 _) rfl) dX1_loavesAheadOf_52 ?_
            refine x_iload_n C 3 dX1_loavesAheadOf_55 rfl rfl ?_
            refine x_aald C (at_X1_orders hk0) (by decide) rfl (fun h17 => rl_X1_orders hk0 _ h17) dX1_loavesAheadOf_56 (fun h17 => ?_)
            refine x_get (v := iV (σ (k0 + 14 + (zI t1.2).toNat) 2)) C 2 cls_X5 (el_X1_orders hk0 h17) (by decide) wd245 rfl rfl dX1_loavesAheadOf_57 ?_
            refine x_iadd C dX1_loavesAheadOf_60 ?_
            refine x_letI (fun v18 => ?_)
            refine x_istore_n (L' := [(2, _), (0, _), (1, _), (3, _)]) C dX1_loavesAheadOf_61 rfl (by decide) rfl ?_
            refine x_pick [1, 2, 0, 3] rfl ?_
            exact hJ8 v18
theorem ct_X1_loavesAheadOf (l : Launch) (E : xE) (n : Nat) (k0 : Nat) (p1 : Int) (σ : xS) (hk0 : isBk k0)  : xMet l E yX1_loavesAheadOf cX1_loavesAheadOf 4 (some .int) { frames := 1, cells := 0, slots := 0, locals := 23 } [.ref (xqa E.2.2 k0), iV p1] WW WW σ (xrI (m_X1_loavesAheadOf n k0 p1 σ) σ) := by
  refine xMet.of0 (by decide) (Nat.le_of_ble_eq_true rfl) rfl rfl (fun X hE C => ?_)
  subst hE
  exact xMap (fun v => (some (iV v), σ)) (wk_X1_loavesAheadOf C (fun _ => rfl) hk0)
theorem mt_X1_loavesAheadOf : xMth yX1_loavesAheadOf cX1_loavesAheadOf 4 (some .int) 1 := ⟨wd743, wd52, ⟨by decide, by decide, rfl⟩⟩
theorem vr_X1_loavesAheadOf : xVir yX1_loavesAheadOf := ⟨wd741, wd742⟩
def m_X1_markStreet (n : Nat) (k0 : Nat) (p1 : Int) (p2 : Int) (σ : xS) : Option xS :=
  xck (zI p1) 20 <| xlet (xput σ ((k0 + 39) + 4) (zI p1).toNat (zz p2)) fun s1 => (m_X9_explore n (k0 + 39) (s1 k0 8) (-1) s1).bind fun s2 => some s2
set_option maxHeartbeats 4000000 in
set_option maxRecDepth 100000 in
theorem wk_X1_markStreet {X : xX} {Qf : xS → State → Prop} {n : Nat} {k0 : Nat} {p1 : Int} {p2 : Int} {σ : xS} (C : xCx X cX1_markStreet "BakeryNight$Bakery" none { frames := 3, cells := 0, slots := 0, locals := 72 } 3) (hQ : ∀ τ, Qf τ = xQf X WW (none, τ)) (hk0 : isBk k0) : WO X Qf WW σ 0 [(0, .ref (xqa (xXE X).2.2 k0)), (1, iV p1), (2, iV p2)] [] (m_X1_markStreet n k0 p1 p2 σ) := by
  unfold m_X1_markStreet
  refine x_aload_n C 0 dX1_markStreet_0 rfl rfl ?_
  refine x_get (v := .ref (xqa (xXE X).2.2 (k0 + 39))) C 9 cls_X1 (at_X1 hk0) (by decide) wd367 rfl (xV_r (rt_X1_roads hk0 _) rfl) dX1_markStreet_1 ?_
  refine x_get (v := .ref (xqa (xXE X).2.2 ((k0 + 39) + 4))) C 3 cls_X9 (at_X9 (rd_bk hk0)) (by decide) wd283 rfl (xV_r (rt_X9_closed (rd_bk hk0) _) rfl) dX1_markStreet_4 ?_
  refine x_iload_n C 1 dX1_markStreet_7 rfl rfl ?_
  refine x_iload_n C 2 dX1_markStreet_8 rfl rfl ?_
  refine x_zast C (at_X9_closed (rd_bk hk0)) rfl dX1_markStreet_9 (fun _ => ?_)
  refine x_letS (fun s1 => ?_)
  refine x_aload_n C 0 dX1_markStreet_10 rfl rfl ?_
  refine x_get (v := .ref (xqa (xXE X).2.2 (k0 + 39))) C 9 cls_X1 (at_X1 hk0) (by decide) wd367 rfl (xV_r (rt_X1_roads hk0 _) rfl) dX1_markStreet_11 ?_
  refine x_aload_n C 0 dX1_markStreet_14 rfl rfl ?_
  refine x_get (v := iV (s1 k0 8)) C 8 cls_X1 (at_X1 hk0) (by decide) wd364 rfl rfl dX1_markStreet_15 ?_
  refine x_iconst C (-1) dX1_markStreet_18 rfl ?_
  refine x_callV C (ct_X9_explore _ _ n (k0 + 39) (s1 k0 8) (-1) s1 (rd_bk hk0)) mt_X9_explore vr_X9_explore wd312 cls_X9 (at_X9 (rd_bk hk0)) rfl ⟨rfl, rfl, Nat.le_of_ble_eq_true rfl, Nat.le_of_ble_eq_true rfl⟩ rfl (by decide) dX1_markStreet_19 (kV (fun s2 => ?_))
  exact x_vretQ C (hQ _) rfl dX1_markStreet_22
theorem ct_X1_markStreet (l : Launch) (E : xE) (n : Nat) (k0 : Nat) (p1 : Int) (p2 : Int) (σ : xS) (hk0 : isBk k0)  : xMet l E yX1_markStreet cX1_markStreet 3 none { frames := 3, cells := 0, slots := 0, locals := 72 } [.ref (xqa E.2.2 k0), iV p1, iV p2] WW WW σ (xrV (m_X1_markStreet n k0 p1 p2 σ)) := by
  refine xMet.of0 (by decide) (Nat.le_of_ble_eq_true rfl) rfl rfl (fun X hE C => ?_)
  subst hE
  exact xMap (fun q => (none, q)) (wk_X1_markStreet C (fun _ => rfl) hk0)
theorem mt_X1_markStreet : xMth yX1_markStreet cX1_markStreet 3 none 2 := ⟨wd849, wd52, ⟨by decide, by decide, rfl⟩⟩
theorem vr_X1_markStreet : xVir yX1_markStreet := ⟨wd847, wd848⟩
def m_X1_improve (n : Nat) (k0 : Nat) (p1 : Int) (p2 : Int) (σ : xS) : Option xS :=
  xj (fun (q3 : xS) => some q3) fun J1 => if (zI p1) = 0 then xlet (xput σ k0 2 ((σ k0 2) + p2)) fun s5 => J1 s5 else if (zI p1) = 1 then xlet (xput σ k0 3 ((σ k0 3) + p2)) fun s7 => J1 s7 else if (zI p1) = 2 then xlet (xput σ k0 0 ((σ k0 0) + p2)) fun s9 => J1 s9 else if (zI p1) = 3 then loopF (fun rec12 (t11 : Int × xS) => if (zI (t11.2 k0 7)) ≤ (zI t11.1) then J1 t11.2 else xck (zI t11.1) 4 <| xlet (xput t11.2 (k0 + 9 + (zI t11.1).toNat) 0 ((t11.2 (k0 + 9 + (zI t11.1).toNat) 0) + p2)) fun s16 => xlet (t11.1 + 1) fun v17 => rec12 (v17, s16)) n (0, σ) else xck 0 3 <| xck 0 3 <| xlet (xput σ (k0 + 38) (0 : Int).toNat ((σ (k0 + 38) (0 : Int).toNat) + (p2 * 1000000))) fun s18 => J1 s18
set_option maxHeartbeats 4000000 in
set_option maxRecDepth 100000 in
theorem wk_X1_improve {X : xX} {Qf : xS → State → Prop} {n : Nat} {k0 : Nat} {p1 : Int} {p2 : Int} {σ : xS} (C : xCx X cX1_improve "BakeryNight$Bakery" none { frames := 0, cells := 0, slots := 0, locals := 0 } 4) (hQ : ∀ τ, Qf τ = xQf X WW (none, τ)) (hk0 : isBk k0) : WO X Qf WW σ 0 [(0, .ref (xqa (xXE X).2.2 k0)), (1, iV p1), (2, iV p2)] [] (m_X1_improve n k0 p1 p2 σ) := by
  unfold m_X1_improve
  refine x_iload_n C 1 dX1_improve_0 rfl rfl ?_
  refine x_join (fun J => ∀ q3 : xS, WO X Qf WW q3 118 [] [] (J q3)) ?_ ?_
  · intro q3
    exact x_vretQ C (hQ _) rfl dX1_improve_118
  · intro J1 hJ2
    by_cases c4 : (zI p1) = 0
    · refine x_op c4 ?_
      refine x_tabIn C rfl 32 dX1_improve_1 (c := 0) c4 (by decide) (by decide) rfl rfl ?_
      refine x_aload_n C 0 dX1_improve_32 rfl rfl ?_
      refine x_dup C dX1_improve_33 rfl ?_
      refine x_get (v := iV (σ k0 2)) C 2 cls_X1 (at_X1 hk0) (by decide) wd343 rfl rfl dX1_improve_34 ?_
      refine x_iload_n C 2 dX1_improve_37 rfl rfl ?_
      refine x_iadd C dX1_improve_38 ?_
      refine x_put C 2 ((σ k0 2) + p2) cls_X1 (at_X1 hk0) (by decide) wd343 rfl rfl rfl rfl (xV_pI rfl) dX1_improve_39 ?_
      refine x_letS (fun s5 => ?_)
      refine x_goto C 118 dX1_improve_42 rfl ?_
      refine x_pick [] rfl ?_
      exact hJ2 s5
    · refine x_on c4 ?_
      by_cases c6 : (zI p1) = 1
      · refine x_op c6 ?_
        refine x_tabIn C rfl 45 dX1_improve_1 (c := 1) c6 (by decide) (by decide) rfl rfl ?_
        refine x_aload_n C 0 dX1_improve_45 rfl rfl ?_
        refine x_dup C dX1_improve_46 rfl ?_
        refine x_get (v := iV (σ k0 3)) C 3 cls_X1 (at_X1 hk0) (by decide) wd346 rfl rfl dX1_improve_47 ?_
        refine x_iload_n C 2 dX1_improve_50 rfl rfl ?_
        refine x_iadd C dX1_improve_51 ?_
        refine x_put C 3 ((σ k0 3) + p2) cls_X1 (at_X1 hk0) (by decide) wd346 rfl rfl rfl rfl (xV_pI rfl) dX1_improve_52 ?_
        refine x_letS (fun s7 => ?_)
        refine x_goto C 118 dX1_improve_55 rfl ?_
        refine x_pick [] rfl ?_
        exact hJ2 s7
      · refine x_on c6 ?_
        by_cases c8 : (zI p1) = 2
        · refine x_op c8 ?_
          refine x_tabIn C rfl 58 dX1_improve_1 (c := 2) c8 (by decide) (by decide) rfl rfl ?_
          refine x_aload_n C 0 dX1_improve_58 rfl rfl ?_
          refine x_dup C dX1_improve_59 rfl ?_
          refine x_get (v := iV (σ k0 0)) C 0 cls_X1 (at_X1 hk0) (by decide) wd336 rfl rfl dX1_improve_60 ?_
          refine x_iload_n C 2 dX1_improve_63 rfl rfl ?_
          refine x_iadd C dX1_improve_64 ?_
          refine x_put C 0 ((σ k0 0) + p2) cls_X1 (at_X1 hk0) (by decide) wd336 rfl rfl rfl rfl (xV_pI rfl) dX1_improve_65 ?_
          refine x_letS (fun s9 => ?_)
          refine x_goto C 118 dX1_improve_68 rfl ?_
          refine x_pick [] rfl ?_
          exact hJ2 s9
        · refine x_on c8 ?_
          by_cases c10 : (zI p1) = 3
          · refine x_op c10 ?_
            refine x_tabIn C rfl 71 dX1_improve_1 (c := 3) c10 (by decide) (by decide) rfl rfl ?_
            refine x_iconst C (0) dX1_improve_71 rfl ?_
            refine x_istore_n (L' := [(3, _), (0, _), (1, _), (2, _)]) C dX1_improve_72 rfl (by decide) rfl ?_
            refine x_pick [1, 3, 0] rfl ?_
            refine x_loop (fun t11 : Int × xS => t11.2) (fun t11 : Int × xS => [(0, .ref (xqa (xXE X).2.2 k0)), (2, iV p2), (3, iV t11.1)]) (fun rec12 hr13 t11 => ?_) n (0, σ)
            refine x_iload_n C 2 dX1_improve_73 rfl rfl ?_
            refine x_aload_n C 0 dX1_improve_74 rfl rfl ?_
            refine x_get (v := iV (t11.2 k0 7)) C 7 cls_X1 (at_X1 hk0) (by decide) wd361 rfl rfl dX1_improve_75 ?_
            refine x_icmp_ge C 102 rfl rfl dX1_improve_78 rfl (fun c14 => x_op c14 ?_) (fun c14 => x_on c14 ?_)
            · refine x_goto C 118 dX1_improve_102 rfl ?_
              refine x_pick [] rfl ?_
              exact hJ2 t11.2
            · refine x_aload_n C 0 dX1_improve_81 rfl rfl ?_
              refine x_get (v := .ref (xqa (xXE X).2.2 (k0 + 8))) C 6 cls_X1 (at_X1 hk0) (by decide) wd356 rfl (xV_r (rt_X1_ovens hk0 _) rfl) dX1_improve_82 ?_
              refine x_iload_n C 2 dX1_improve_85 rfl rfl ?_
              refine x_aald C (at_X1_ovens hk0) (by decide) rfl (fun h15 => rl_X1_ovens hk0 _ h15) dX1_improve_86 (fun h15 => ?_)
              refine x_dup C dX1_improve_87 rfl ?_
              refine x_get (v := iV (t11.2 (k0 + 9 + (zI t11.1).toNat) 0)) C 0 cls_X6 (el_X1_ovens hk0 h15) (by decide) wd213 rfl rfl dX1_improve_88 ?_
              refine x_iload_n C 1 dX1_improve_91 rfl rfl ?_
              refine x_iadd C dX1_improve_92 ?_
              refine x_put C 0 ((t11.2 (k0 + 9 + (zI t11.1).toNat) 0) + p2) cls_X6 (el_X1_ovens hk0 h15) (by decide) wd213 rfl rfl rfl rfl (xV_pI rfl) dX1_improve_93 ?_
              refine x_letS (fun s16 => ?_)
              refine x_inc C 2 (f := _) dX1_improve_96 rfl (by decide) (1) rfl (fun v17 => ?_)
              refine x_reL (L' := [(3, _), (0, _), (2, _)]) rfl ?_
              refine x_goto C 73 dX1_improve_99 rfl ?_
              refine x_pick [1, 2, 0] rfl ?_
              exact hr13 (v17, s16)
          · refine x_on c10 ?_
            refine x_tabOut C rfl 105 dX1_improve_1 (by omega) rfl ?_
            refine x_aload_n C 0 dX1_improve_105 rfl rfl ?_
            refine x_get (v := .ref (xqa (xXE X).2.2 (k0 + 38))) C 10 cls_X1 (at_X1 hk0) (by decide) wd371 rfl (xV_r (rt_X1_vanLoads hk0 _) rfl) dX1_improve_106 ?_
            refine x_iconst C (0) dX1_improve_109 rfl ?_
            refine x_dup2 C dX1_improve_110 rfl rfl ?_
            refine x_iald C (at_X1_vanLoads hk0) (zIl _ rfl) dX1_improve_111 (fun _ => ?_)
            refine x_iload_n C 2 dX1_improve_112 rfl rfl ?_
            refine x_ldc C (1000000) wd1547 rfl dX1_improve_113 ?_
            refine x_imul C dX1_improve_115 ?_
            refine x_iadd C dX1_improve_116 ?_
            refine x_iast C (at_X1_vanLoads hk0) (zIl _ rfl) dX1_improve_117 (fun _ => ?_)
            refine x_letS (fun s18 => ?_)
            refine x_pick [] rfl ?_
            exact hJ2 s18
theorem ct_X1_improve (l : Launch) (E : xE) (n : Nat) (k0 : Nat) (p1 : Int) (p2 : Int) (σ : xS) (hk0 : isBk k0)  : xMet l E yX1_improve cX1_improve 4 none { frames := 0, cells := 0, slots := 0, locals := 0 } [.ref (xqa E.2.2 k0), iV p1, iV p2] WW WW σ (xrV (m_X1_improve n k0 p1 p2 σ)) := by
  refine xMet.of0 (by decide) (Nat.le_of_ble_eq_true rfl) rfl rfl (fun X hE C => ?_)
  subst hE
  exact xMap (fun q => (none, q)) (wk_X1_improve C (fun _ => rfl) hk0)
theorem mt_X1_improve : xMth yX1_improve cX1_improve 4 none 2 := ⟨wd1546, wd52, ⟨by decide, by decide, rfl⟩⟩
theorem vr_X1_improve : xVir yX1_improve := ⟨wd1544, wd1545⟩
def m_X3_forget (σ : xS) : Option xS :=
  xlet (xput σ 114 3 0) fun s1 => some s1
set_option maxHeartbeats 4000000 in
set_option maxRecDepth 100000 in
theorem wk_X3_forget {X : xX} {Qf : xS → State → Prop} {σ : xS} (C : xCx X cX3_forget "BakeryNight$History" none { frames := 0, cells := 0, slots := 0, locals := 0 } 1) (hQ : ∀ τ, Qf τ = xQf X WW (none, τ))  : WO X Qf WW σ 0 [(0, .ref (xqa (xXE X).2.2 114))] [] (m_X3_forget σ) := by
  unfold m_X3_forget
  refine x_aload_n C 0 dX3_forget_0 rfl rfl ?_
  refine x_iconst C (0) dX3_forget_1 rfl ?_
  refine x_put C 3 0 cls_X3 at_X3 (by decide) wd427 rfl rfl rfl rfl (xV_pI rfl) dX3_forget_2 ?_
  refine x_letS (fun s1 => ?_)
  exact x_vretQ C (hQ _) rfl dX3_forget_5
theorem ct_X3_forget (l : Launch) (E : xE) (σ : xS)   : xMet l E yX3_forget cX3_forget 1 none { frames := 0, cells := 0, slots := 0, locals := 0 } [.ref (xqa E.2.2 114)] WW WW σ (xrV (m_X3_forget σ)) := by
  refine xMet.of0 (by decide) (Nat.le_of_ble_eq_true rfl) rfl rfl (fun X hE C => ?_)
  subst hE
  exact xMap (fun q => (none, q)) (wk_X3_forget C (fun _ => rfl) )
theorem mt_X3_forget : xMth yX3_forget cX3_forget 1 none 0 := ⟨wd1094, wd59, ⟨by decide, by decide, rfl⟩⟩
theorem vr_X3_forget : xVir yX3_forget := ⟨wd1092, wd1093⟩
def m_X3_dropOldest (σ : xS) : Option xS :=
  xlet (xput σ 114 3 11) fun s1 => xcc 1 0 (zI (s1 114 3)) 12 12 <| xlet (xcpy s1 115 115 1 0 (zI (s1 114 3))) fun s2 => xcc 1 0 (zI (s2 114 3)) 12 12 <| xlet (xcpy s2 116 116 1 0 (zI (s2 114 3))) fun s3 => xcc 1 0 (zI (s3 114 3)) 12 12 <| xlet (xcpy s3 117 117 1 0 (zI (s3 114 3))) fun s4 => some s4
set_option maxHeartbeats 4000000 in
set_option maxRecDepth 100000 in
theorem wk_X3_dropOldest {X : xX} {Qf : xS → State → Prop} {σ : xS} (C : xCx X cX3_dropOldest "BakeryNight$History" none { frames := 1, cells := 0, slots := 0, locals := 40 } 1) (hQ : ∀ τ, Qf τ = xQf X WW (none, τ))  : WO X Qf WW σ 0 [(0, .ref (xqa (xXE X).2.2 114))] [] (m_X3_dropOldest σ) := by
  unfold m_X3_dropOldest
  refine x_aload_n C 0 dX3_dropOldest_0 rfl rfl ?_
  refine x_bipush C (11) dX3_dropOldest_1 rfl ?_
  refine x_put C 3 11 cls_X3 at_X3 (by decide) wd427 rfl rfl rfl rfl (xV_pI rfl) dX3_dropOldest_3 ?_
  refine x_letS (fun s1 => ?_)
  refine x_aload_n C 0 dX3_dropOldest_6 rfl rfl ?_
  refine x_get (v := .ref (xqa (xXE X).2.2 115)) C 0 cls_X3 at_X3 (by decide) wd424 rfl (xV_r (rt_X3_kinds  _) rfl) dX3_dropOldest_7 ?_
  refine x_iconst C (1) dX3_dropOldest_10 rfl ?_
  refine x_aload_n C 0 dX3_dropOldest_11 rfl rfl ?_
  refine x_get (v := .ref (xqa (xXE X).2.2 115)) C 0 cls_X3 at_X3 (by decide) wd424 rfl (xV_r (rt_X3_kinds  _) rfl) dX3_dropOldest_12 ?_
  refine x_iconst C (0) dX3_dropOldest_15 rfl ?_
  refine x_aload_n C 0 dX3_dropOldest_16 rfl rfl ?_
  refine x_get (v := iV (s1 114 3)) C 3 cls_X3 at_X3 (by decide) wd427 rfl rfl dX3_dropOldest_17 ?_
  refine x_copy C at_X3_kinds at_X3_kinds (zIl _ rfl) (zIl _ rfl) rfl wd1538 wd723 wd722 wd62 (Nat.le_of_ble_eq_true rfl) (Nat.le_of_ble_eq_true rfl) dX3_dropOldest_20 (fun s2 => ?_)
  refine x_aload_n C 0 dX3_dropOldest_23 rfl rfl ?_
  refine x_get (v := .ref (xqa (xXE X).2.2 116)) C 1 cls_X3 at_X3 (by decide) wd425 rfl (xV_r (rt_X3_indexes  _) rfl) dX3_dropOldest_24 ?_
  refine x_iconst C (1) dX3_dropOldest_27 rfl ?_
  refine x_aload_n C 0 dX3_dropOldest_28 rfl rfl ?_
  refine x_get (v := .ref (xqa (xXE X).2.2 116)) C 1 cls_X3 at_X3 (by decide) wd425 rfl (xV_r (rt_X3_indexes  _) rfl) dX3_dropOldest_29 ?_
  refine x_iconst C (0) dX3_dropOldest_32 rfl ?_
  refine x_aload_n C 0 dX3_dropOldest_33 rfl rfl ?_
  refine x_get (v := iV (s2 114 3)) C 3 cls_X3 at_X3 (by decide) wd427 rfl rfl dX3_dropOldest_34 ?_
  refine x_copy C at_X3_indexes at_X3_indexes (zIl _ rfl) (zIl _ rfl) rfl wd1538 wd723 wd722 wd62 (Nat.le_of_ble_eq_true rfl) (Nat.le_of_ble_eq_true rfl) dX3_dropOldest_37 (fun s3 => ?_)
  refine x_aload_n C 0 dX3_dropOldest_40 rfl rfl ?_
  refine x_get (v := .ref (xqa (xXE X).2.2 117)) C 2 cls_X3 at_X3 (by decide) wd426 rfl (xV_r (rt_X3_before  _) rfl) dX3_dropOldest_41 ?_
  refine x_iconst C (1) dX3_dropOldest_44 rfl ?_
  refine x_aload_n C 0 dX3_dropOldest_45 rfl rfl ?_
  refine x_get (v := .ref (xqa (xXE X).2.2 117)) C 2 cls_X3 at_X3 (by decide) wd426 rfl (xV_r (rt_X3_before  _) rfl) dX3_dropOldest_46 ?_
  refine x_iconst C (0) dX3_dropOldest_49 rfl ?_
  refine x_aload_n C 0 dX3_dropOldest_50 rfl rfl ?_
  refine x_get (v := iV (s3 114 3)) C 3 cls_X3 at_X3 (by decide) wd427 rfl rfl dX3_dropOldest_51 ?_
  refine x_copy C at_X3_before at_X3_before (zIl _ rfl) (zIl _ rfl) rfl wd1538 wd723 wd722 wd62 (Nat.le_of_ble_eq_true rfl) (Nat.le_of_ble_eq_true rfl) dX3_dropOldest_54 (fun s4 => ?_)
  exact x_vretQ C (hQ _) rfl dX3_dropOldest_57
theorem ct_X3_dropOldest (l : Launch) (E : xE) (σ : xS)   : xMet l E yX3_dropOldest cX3_dropOldest 1 none { frames := 1, cells := 0, slots := 0, locals := 40 } [.ref (xqa E.2.2 114)] WW WW σ (xrV (m_X3_dropOldest σ)) := by
  refine xMet.of0 (by decide) (Nat.le_of_ble_eq_true rfl) rfl rfl (fun X hE C => ?_)
  subst hE
  exact xMap (fun q => (none, q)) (wk_X3_dropOldest C (fun _ => rfl) )
theorem mt_X3_dropOldest : xMth yX3_dropOldest cX3_dropOldest 1 none 0 := ⟨wd1537, wd59, ⟨by decide, by decide, rfl⟩⟩
theorem vr_X3_dropOldest : xVir yX3_dropOldest := ⟨wd1536, wd47⟩
def m_X3_add (p1 : Int) (p2 : Int) (p3 : Int) (σ : xS) : Option xS :=
  xj (fun (q4 : xS) => xck (zI (q4 114 3)) 12 <| xlet (xput q4 115 (zI (q4 114 3)).toNat p1) fun s5 => xck (zI (s5 114 3)) 12 <| xlet (xput s5 116 (zI (s5 114 3)).toNat p2) fun s6 => xck (zI (s6 114 3)) 12 <| xlet (xput s6 117 (zI (s6 114 3)).toNat p3) fun s7 => xlet (xput s7 114 3 ((s7 114 3) + 1)) fun s8 => some s8) fun J2 => if (zI (σ 114 3)) = 12 then (m_X3_dropOldest σ).bind fun s10 => J2 s10 else J2 σ
set_option maxHeartbeats 4000000 in
set_option maxRecDepth 100000 in
theorem wk_X3_add {X : xX} {Qf : xS → State → Prop} {p1 : Int} {p2 : Int} {p3 : Int} {σ : xS} (C : xCx X cX3_add "BakeryNight$History" none { frames := 2, cells := 0, slots := 0, locals := 60 } 4) (hQ : ∀ τ, Qf τ = xQf X WW (none, τ))  : WO X Qf WW σ 0 [(0, .ref (xqa (xXE X).2.2 114)), (1, iV p1), (2, iV p2), (3, iV p3)] [] (m_X3_add p1 p2 p3 σ) := by
  unfold m_X3_add
  refine x_aload_n C 0 dX3_add_0 rfl rfl ?_
  refine x_get (v := iV (σ 114 3)) C 3 cls_X3 at_X3 (by decide) wd427 rfl rfl dX3_add_1 ?_
  refine x_bipush C (12) dX3_add_4 rfl ?_
  refine x_join (fun J => ∀ q4 : xS, WO X Qf WW q4 13 [(0, .ref (xqa (xXE X).2.2 114)), (1, iV p1), (2, iV p2), (3, iV p3)] [] (J q4)) ?_ ?_
  · intro q4
    refine x_aload_n C 0 dX3_add_13 rfl rfl ?_
    refine x_get (v := .ref (xqa (xXE X).2.2 115)) C 0 cls_X3 at_X3 (by decide) wd424 rfl (xV_r (rt_X3_kinds  _) rfl) dX3_add_14 ?_
    refine x_aload_n C 0 dX3_add_17 rfl rfl ?_
    refine x_get (v := iV (q4 114 3)) C 3 cls_X3 at_X3 (by decide) wd427 rfl rfl dX3_add_18 ?_
    refine x_iload_n C 1 dX3_add_21 rfl rfl ?_
    refine x_iast C at_X3_kinds rfl dX3_add_22 (fun _ => ?_)
    refine x_letS (fun s5 => ?_)
    refine x_aload_n C 0 dX3_add_23 rfl rfl ?_
    refine x_get (v := .ref (xqa (xXE X).2.2 116)) C 1 cls_X3 at_X3 (by decide) wd425 rfl (xV_r (rt_X3_indexes  _) rfl) dX3_add_24 ?_
    refine x_aload_n C 0 dX3_add_27 rfl rfl ?_
    refine x_get (v := iV (s5 114 3)) C 3 cls_X3 at_X3 (by decide) wd427 rfl rfl dX3_add_28 ?_
    refine x_iload_n C 2 dX3_add_31 rfl rfl ?_
    refine x_iast C at_X3_indexes rfl dX3_add_32 (fun _ => ?_)
    refine x_letS (fun s6 => ?_)
    refine x_aload_n C 0 dX3_add_33 rfl rfl ?_
    refine x_get (v := .ref (xqa (xXE X).2.2 117)) C 2 cls_X3 at_X3 (by decide) wd426 rfl (xV_r (rt_X3_before  _) rfl) dX3_add_34 ?_
    refine x_aload_n C 0 dX3_add_37 rfl rfl ?_
    refine x_get (v := iV (s6 114 3)) C 3 cls_X3 at_X3 (by decide) wd427 rfl rfl dX3_add_38 ?_
    refine x_iload_n C 3 dX3_add_41 rfl rfl ?_
    refine x_iast C at_X3_before rfl dX3_add_42 (fun _ => ?_)
    refine x_letS (fun s7 => ?_)
    refine x_aload_n C 0 dX3_add_43 rfl rfl ?_
    refine x_dup C dX3_add_44 rfl ?_
    refine x_get (v := iV (s7 114 3)) C 3 cls_X3 at_X3 (by decide) wd427 rfl rfl dX3_add_45 ?_
    refine x_iconst C (1) dX3_add_48 rfl ?_
    refine x_iadd C dX3_add_49 ?_
    refine x_put C 3 ((s7 114 3) + 1) cls_X3 at_X3 (by decide) wd427 rfl rfl rfl rfl (xV_pI rfl) dX3_add_50 ?_
    refine x_letS (fun s8 => ?_)
    exact x_vretQ C (hQ _) rfl dX3_add_53
  · intro J2 hJ3
    refine x_icmp_ne C 13 rfl (zIl _ rfl) dX3_add_6 rfl (fun c9 => x_on c9 ?_) (fun c9 => x_op c9 ?_)
    · refine x_pick [0, 1, 2, 3] rfl ?_
      exact hJ3 σ
    · refine x_aload_n C 0 dX3_add_9 rfl rfl ?_
      refine x_callV C (ct_X3_dropOldest _ _ σ) mt_X3_dropOldest vr_X3_dropOldest wd1534 cls_X3 at_X3 rfl ⟨rfl, rfl, Nat.le_of_ble_eq_true rfl, Nat.le_of_ble_eq_true rfl⟩ rfl (by decide) dX3_add_10 (kV (fun s10 => ?_))
      refine x_pick [0, 1, 2, 3] rfl ?_
      exact hJ3 s10
theorem ct_X3_add (l : Launch) (E : xE) (p1 : Int) (p2 : Int) (p3 : Int) (σ : xS)   : xMet l E yX3_add cX3_add 4 none { frames := 2, cells := 0, slots := 0, locals := 60 } [.ref (xqa E.2.2 114), iV p1, iV p2, iV p3] WW WW σ (xrV (m_X3_add p1 p2 p3 σ)) := by
  refine xMet.of0 (by decide) (Nat.le_of_ble_eq_true rfl) rfl rfl (fun X hE C => ?_)
  subst hE
  exact xMap (fun q => (none, q)) (wk_X3_add C (fun _ => rfl) )
theorem mt_X3_add : xMth yX3_add cX3_add 4 none 3 := ⟨wd1533, wd59, ⟨by decide, by decide, rfl⟩⟩
theorem vr_X3_add : xVir yX3_add := ⟨wd1531, wd1532⟩
def m_X3_takeBack (n : Nat) (k1 : Nat) (σ : xS) : Option xS :=
  if (zI (σ 114 3)) = 0 then some σ else xlet (xput σ 114 3 ((σ 114 3) - 1)) fun s2 => xck (zI (s2 114 3)) 12 <| xlet (s2 116 (zI (s2 114 3)).toNat) fun v3 => xck (zI (s2 114 3)) 12 <| xj (fun (q6 : xS) => some q6) fun J4 => if (zI (s2 115 (zI (s2 114 3)).toNat)) = 0 then xck (zI (s2 114 3)) 12 <| xlet (xput s2 k1 0 (s2 117 (zI (s2 114 3)).toNat)) fun s8 => J4 s8 else if (zI (s2 115 (zI (s2 114 3)).toNat)) = 1 then xck (zI v3) 4 <| xck (zI (s2 114 3)) 12 <| xlet (if (zI (s2 117 (zI (s2 114 3)).toNat)) = 1 then 1 else 0) fun v11 => xbo v11 <| xlet (xput s2 (k1 + 9 + (zI v3).toNat) 3 v11) fun s13 => J4 s13 else if (zI (s2 115 (zI (s2 114 3)).toNat)) = 2 then xck (zI (s2 114 3)) 12 <| xlet (if (zI (s2 117 (zI (s2 114 3)).toNat)) = 1 then 1 else 0) fun v17 => (m_X1_markStreet n k1 v3 v17 s2).bind fun s18 => J4 s18 else if (zI (s2 115 (zI (s2 114 3)).toNat)) = 3 then xlet (xput s2 k1 13 v3) fun s22 => J4 s22 else if (zI (s2 115 (zI (s2 114 3)).toNat)) = 4 then xck (zI v3) 24 <| xlet (xput s2 (k1 + 14 + (zI v3).toNat) 4 0) fun s25 => J4 s25 else xck (zI v3) 24 <| xck (zI (s2 114 3)) 12 <| xlet (xput s2 (k1 + 14 + (zI v3).toNat) 3 (s2 117 (zI (s2 114 3)).toNat)) fun s27 => J4 s27
set_option maxHeartbeats 4000000 in
set_option maxRecDepth 100000 in
theorem wk_X3_takeBack {X : xX} {Qf : xS → State → Prop} {n : Nat} {k1 : Nat} {σ : xS} (C : xCx X cX3_takeBack "BakeryNight$History" none { frames := 4, cells := 0, slots := 0, locals := 94 } 3) (hQ : ∀ τ, Qf τ = xQf X WW (none, τ)) (hk1 : isBk k1) : WO X Qf WW σ 0 [(0, .ref (xqa (xXE X).2.2 114)), (1, .ref (xqa (xXE X).2.2 k1))] [] (m_X3_takeBack n k1 σ) := by
  unfold m_X3_takeBack
  refine x_aload_n C 0 dX3_takeBack_0 rfl rfl ?_
  refine x_get (v := iV (σ 114 3)) C 3 cls_X3 at_X3 (by decide) wd427 rfl rfl dX3_takeBack_1 ?_
  refine x_if_ne C 8 rfl dX3_takeBack_4 rfl (fun c1 => x_on c1 ?_) (fun c1 => x_op c1 ?_)
  · refine x_aload_n C 0 dX3_takeBack_8 rfl rfl ?_
    refine x_dup C dX3_takeBack_9 rfl ?_
    refine x_get (v := iV (σ 114 3)) C 3 cls_X3 at_X3 (by decide) wd427 rfl rfl dX3_takeBack_10 ?_
    refine x_iconst C (1) dX3_takeBack_13 rfl ?_
    refine x_isub C dX3_takeBack_14 ?_
    refine x_put C 3 ((σ 114 3) - 1) cls_X3 at_X3 (by decide) wd427 rfl rfl rfl rfl (xV_pI rfl) dX3_takeBack_15 ?_
    refine x_letS (fun s2 => ?_)
    refine x_aload_n C 0 dX3_takeBack_18 rfl rfl ?_
    refine x_get (v := .ref (xqa (xXE X).2.2 116)) C 1 cls_X3 at_X3 (by decide) wd425 rfl (xV_r (rt_X3_indexes  _) rfl) dX3_takeBack_19 ?_
    refine x_aload_n C 0 dX3_takeBack_22 rfl rfl ?_
    refine x_get (v := iV (s2 114 3)) C 3 cls_X3 at_X3 (by decide) wd427 rfl rfl dX3_takeBack_23 ?_
    refine x_iald C at_X3_indexes rfl dX3_takeBack_26 (fun _ => ?_)
    refine x_letI (fun v3 => ?_)
    refine x_istore_n (L' := [(2, _), (0, _), (1, _)]) C dX3_takeBack_27 rfl (by decide) rfl ?_
    refine x_aload_n C 1 dX3_takeBack_28 rfl rfl ?_
    refine x_get (v := .ref (xqa (xXE X).2.2 115)) C 0 cls_X3 at_X3 (by decide) wd424 rfl (xV_r (rt_X3_kinds  _) rfl) dX3_takeBack_29 ?_
    refine x_aload_n C 1 dX3_takeBack_32 rfl rfl ?_
    refine x_get (v := iV (s2 114 3)) C 3 cls_X3 at_X3 (by decide) wd427 rfl rfl dX3_takeBack_33 ?_
    refine x_iald C at_X3_kinds rfl dX3_takeBack_36 (fun _ => ?_)
    refine x_join (fun J => ∀ q6 : xS, WO X Qf WW q6 183 [] [] (J q6)) ?_ ?_
    · intro q6
      exact x_vretQ C (hQ _) rfl dX3_takeBack_183
    · intro J4 hJ5
      by_cases c7 : (zI (s2 115 (zI (s2 114 3)).toNat)) = 0
      · refine x_op c7 ?_
        refine x_tabIn C rfl 72 dX3_takeBack_37 (c := 0) c7 (by decide) (by decide) rfl rfl ?_
        refine x_aload_n C 2 dX3_takeBack_72 rfl rfl ?_
        refine x_aload_n C 1 dX3_takeBack_73 rfl rfl ?_
        refine x_get (v := .ref (xqa (xXE X).2.2 117)) C 2 cls_X3 at_X3 (by decide) wd426 rfl (xV_r (rt_X3_before  _) rfl) dX3_takeBack_74 ?_
        refine x_aload_n C 1 dX3_takeBack_77 rfl rfl ?_
        refine x_get (v := iV (s2 114 3)) C 3 cls_X3 at_X3 (by decide) wd427 rfl rfl dX3_takeBack_78 ?_
        refine x_iald C at_X3_before rfl dX3_takeBack_81 (fun _ => ?_)
        refine x_put C 0 (s2 117 (zI (s2 114 3)).toNat) cls_X1 (at_X1 hk1) (by decide) wd337 rfl rfl rfl rfl (xV_pI rfl) dX3_takeBack_82 ?_
        refine x_letS (fun s8 => ?_)
        refine x_goto C 183 dX3_takeBack_85 rfl ?_
        refine x_pick [] rfl ?_
        exact hJ5 s8
      · refine x_on c7 ?_
        by_cases c9 : (zI (s2 115 (zI (s2 114 3)).toNat)) = 1
        · refine x_op c9 ?_
          refine x_tabIn C rfl 88 dX3_takeBack_37 (c := 1) c9 (by decide) (by decide) rfl rfl ?_
          refine x_aload_n C 2 dX3_takeBack_88 rfl rfl ?_
          refine x_get (v := .ref (xqa (xXE X).2.2 (k1 + 8))) C 6 cls_X1 (at_X1 hk1) (by decide) wd358 rfl (xV_r (rt_X1_ovens hk1 _) rfl) dX3_takeBack_89 ?_
          refine x_iload_n C 0 dX3_takeBack_92 rfl rfl ?_
          refine x_aald C (at_X1_ovens hk1) (by decide) rfl (fun h10 => rl_X1_ovens hk1 _ h10) dX3_takeBack_93 (fun h10 => ?_)
          refine x_aload_n C 1 dX3_takeBack_94 rfl rfl ?_
          refine x_get (v := .ref (xqa (xXE X).2.2 117)) C 2 cls_X3 at_X3 (by decide) wd426 rfl (xV_r (rt_X3_before  _) rfl) dX3_takeBack_95 ?_
          refine x_aload_n C 1 dX3_takeBack_98 rfl rfl ?_
          refine x_get (v := iV (s2 114 3)) C 3 cls_X3 at_X3 (by decide) wd427 rfl rfl dX3_takeBack_99 ?_
          refine x_iald C at_X3_before rfl dX3_takeBack_102 (fun _ => ?_)
          refine x_iconst C (1) dX3_takeBack_103 rfl ?_
          refine x_tree 112 [.ref (xqa (xXE X).2.2 (k1 + 9 + (zI v3).toNat))] (fun v11 => ?_) (fun hJ14 => ?_)
          · refine x_bo (fun hb12 => ?_)
            refine x_put C 3 v11 cls_X6 (el_X1_ovens hk1 h10) (by decide) wd218 rfl rfl (xnb hb12) (xfb hb12) (xV_pI rfl) dX3_takeBack_112 ?_
            refine x_letS (fun s13 => ?_)
            refine x_goto C 183 dX3_takeBack_115 rfl ?_
            refine x_pick [] rfl ?_
            exact hJ5 s13
          · refine x_icmp_ne C 111 rfl (zIl _ rfl) dX3_takeBack_104 rfl (fun c15 => ?_) (fun c15 => ?_)
            · refine x_iconst C (0) dX3_takeBack_111 rfl ?_
              exact hJ14 _ (by rw [if_neg c15])
            · refine x_iconst C (1) dX3_takeBack_107 rfl ?_
              refine x_goto C 112 dX3_takeBack_108 rfl ?_
              exact hJ14 _ (by rw [if_pos c15])
        · refine x_on c9 ?_
          by_cases c16 : (zI (s2 115 (zI (s2 114 3)).toNat)) = 2
          · refine x_op c16 ?_
            refine x_tabIn C rfl 118 dX3_takeBack_37 (c := 2) c16 (by decide) (by decide) rfl rfl ?_
            refine x_aload_n C 2 dX3_takeBack_118 rfl rfl ?_
            refine x_iload_n C 0 dX3_takeBack_119 rfl rfl ?_
            refine x_aload_n C 1 dX3_takeBack_120 rfl rfl ?_
            refine x_get (v := .ref (xqa (xXE X).2.2 117)) C 2 cls_X3 at_X3 (by decide) wd426 rfl (xV_r (rt_X3_before  _) rfl) dX3_takeBack_121 ?_
            refine x_aload_n C 1 dX3_takeBack_124 rfl rfl ?_
            refine x_get (v := iV (s2 114 3)) C 3 cls_X3 at_X3 (by decide) wd427 rfl rfl dX3_takeBack_125 ?_
            refine x_iald C at_X3_before rfl dX3_takeBack_128 (fun _ => ?_)
            refine x_iconst C (1) dX3_takeBack_129 rfl ?_
            refine x_tree 138 [iV v3, .ref (xqa (xXE X).2.2 k1)] (fun v17 => ?_) (fun hJ19 => ?_)
            · refine x_callV C (ct_X1_markStreet _ _ n k1 v3 v17 s2 hk1) mt_X1_markStreet vr_X1_markStreet wd846 cls_X1 (at_X1 hk1) rfl ⟨rfl, rfl, Nat.le_of_ble_eq_true rfl, Nat.le_of_ble_eq_true rfl⟩ rfl (by decide) dX3_takeBack_138 (kV (fun s18 => ?_))
              refine x_goto C 183 dX3_takeBack_141 rfl ?_
              refine x_pick [] rfl ?_
              exact hJ5 s18
            · refine x_icmp_ne C 137 rfl (zIl _ rfl) dX3_takeBack_130 rfl (fun c20 => ?_) (fun c20 => ?_)
              · refine x_iconst C (0) dX3_takeBack_137 rfl ?_
                exact hJ19 _ (by rw [if_neg c20])
              · refine x_iconst C (1) dX3_takeBack_133 rfl ?_
                refine x_goto C 138 dX3_takeBack_134 rfl ?_
                exact hJ19 _ (by rw [if_pos c20])
          · refine x_on c16 ?_
            by_cases c21 : (zI (s2 115 (zI (s2 114 3)).toNat)) = 3
            · refine x_op c21 ?_
              refine x_tabIn C rfl 144 dX3_takeBack_37 (c := 3) c21 (by decide) (by decide) rfl rfl ?_
              refine x_aload_n C 2 dX3_takeBack_144 rfl rfl ?_
              refine x_iload_n C 0 dX3_takeBack_145 rfl rfl ?_
              refine x_put C 13 v3 cls_X1 (at_X1 hk1) (by decide) wd385 rfl rfl rfl rfl (xV_pI rfl) dX3_takeBack_146 ?_
              refine x_letS (fun s22 => ?_)
              refine x_goto C 183 dX3_takeBack_149 rfl ?_
              refine x_pick [] rfl ?_
              exact hJ5 s22
            · refine x_on c21 ?_
              by_cases c23 : (zI (s2 115 (zI (s2 114 3)).toNat)) = 4
              · refine x_op c23 ?_
                refine x_tabIn C rfl 152 dX3_takeBack_37 (c := 4) c23 (by decide) (by decide) rfl rfl ?_
                refine x_aload_n C 2 dX3_takeBack_152 rfl rfl ?_
                refine x_get (v := .ref (xqa (xXE X).2.2 (k1 + 13))) C 12 cls_X1 (at_X1 hk1) (by decide) wd379 rfl (xV_r (rt_X1_orders hk1 _) rfl) dX3_takeBack_153 ?_
                refine x_iload_n C 0 dX3_takeBack_156 rfl rfl ?_
                refine x_aald C (at_X1_orders hk1) (by decide) rfl (fun h24 => rl_X1_orders hk1 _ h24) dX3_takeBack_157 (fun h24 => ?_)
                refine x_iconst C (0) dX3_takeBack_158 rfl ?_
                refine x_put C 4 0 cls_X5 (el_X1_orders hk1 h24) (by decide) wd253 rfl rfl (xnb (Or.inl rfl)) (xfb (Or.inl rfl)) (xV_pI rfl) dX3_takeBack_159 ?_
                refine x_letS (fun s25 => ?_)
                refine x_goto C 183 dX3_takeBack_162 rfl ?_
                refine x_pick [] rfl ?_
                exact hJ5 s25
              · refine x_on c23 ?_
                refine x_tabOut C rfl 165 dX3_takeBack_37 (by omega) rfl ?_
                refine x_aload_n C 2 dX3_takeBack_165 rfl rfl ?_
                refine x_get (v := .ref (xqa (xXE X).2.2 (k1 + 13))) C 12 cls_X1 (at_X1 hk1) (by decide) wd379 rfl (xV_r (rt_X1_orders hk1 _) rfl) dX3_takeBack_166 ?_
                refine x_iload_n C 0 dX3_takeBack_169 rfl rfl ?_
                refine x_aald C (at_X1_orders hk1) (by decide) rfl (fun h26 => rl_X1_orders hk1 _ h26) dX3_takeBack_170 (fun h26 => ?_)
                refine x_aload_n C 1 dX3_takeBack_171 rfl rfl ?_
                refine x_get (v := .ref (xqa (xXE X).2.2 117)) C 2 cls_X3 at_X3 (by decide) wd426 rfl (xV_r (rt_X3_before  _) rfl) dX3_takeBack_172 ?_
                refine x_aload_n C 1 dX3_takeBack_175 rfl rfl ?_
                refine x_get (v := iV (s2 114 3)) C 3 cls_X3 at_X3 (by decide) wd427 rfl rfl dX3_takeBack_176 ?_
                refine x_iald C at_X3_before rfl dX3_takeBack_179 (fun _ => ?_)
                refine x_put C 3 (s2 117 (zI (s2 114 3)).toNat) cls_X5 (el_X1_orders hk1 h26) (by decide) wd249 rfl rfl rfl rfl (xV_pI rfl) dX3_takeBack_180 ?_
                refine x_letS (fun s27 => ?_)
                refine x_pick [] rfl ?_
                exact hJ5 s27
  · exact x_vretQ C (hQ _) rfl dX3_takeBack_7
theorem ct_X3_takeBack (l : Launch) (E : xE) (n : Nat) (k1 : Nat) (σ : xS) (hk1 : isBk k1)  : xMet l E yX3_takeBack cX3_takeBack 3 none { frames := 4, cells := 0, slots := 0, locals := 94 } [.ref (xqa E.2.2 114), .ref (xqa E.2.2 k1)] WW WW σ (xrV (m_X3_takeBack n k1 σ)) := by
  refine xMet.of0 (by decide) (Nat.le_of_ble_eq_true rfl) rfl rfl (fun X hE C => ?_)
  subst hE
  exact xMap (fun q => (none, q)) (wk_X3_takeBack C (fun _ => rfl) hk1)
theorem mt_X3_takeBack : xMth yX3_takeBack cX3_takeBack 3 none 1 := ⟨wd845, wd59, ⟨by decide, by decide, rfl⟩⟩
theorem vr_X3_takeBack : xVir yX3_takeBack := ⟨wd843, wd844⟩
def m_X4_numberBatches (n : Nat) (k0 : Nat) (k1 : Nat) (σ : xS) : Option xS :=
  xlet (xput σ k0 2 0) fun s1 => loopF (fun rec3 (t2 : Int × Int × xS) => if (zI (t2.2.2 k1 5)) ≤ (zI t2.2.1) then some t2.2.2 else xlet (-1) fun v6 => loopF (fun rec8 (t7 : Int × Int) => if (zI (t2.2.2 k1 5)) ≤ (zI t7.2) then if (zI t7.1) = (-1) then some t2.2.2 else xlet (zor t2.1 (zshl 1 t7.1)) fun v12 => (m_X1_batchesOf n k1 t7.1 t2.2.2).bind fun v13 => xlet (zmin (60 : Int) ((t2.2.2 k0 2) + v13)) fun v14 => loopF (fun rec16 (t15 : xS) => if (zI v14) ≤ (zI (t15 k0 2)) then xlet (t2.2.1 + 1) fun v19 => rec3 (v12, v19, t15) else xck (zI (t15 k0 2)) 60 <| xlet (xput t15 (k0 + 1) (zI (t15 k0 2)).toNat t7.1) fun s20 => xlet (xput s20 k0 2 ((s20 k0 2) + 1)) fun s21 => rec16 s21) n t2.2.2 else xj (fun (q24 : Int) => xlet (t7.2 + 1) fun v25 => rec8 (q24, v25)) fun J22 => if (zI (zand (zshr t2.1 t7.2) 1)) = 0 then xj (fun (q30 : Unit) => J22 t7.2) fun J28 => if (zI t7.1) = (-1) then J28 () else (m_X1_dueOf n k1 t7.2 t2.2.2).bind fun v32 => (m_X1_dueOf n k1 t7.1 t2.2.2).bind fun v33 => if (zI v33) ≤ (zI v32) then J22 t7.1 else J28 () else J22 t7.1) n (v6, 0)) n (0, 0, s1)
set_option maxHeartbeats 4000000 in
set_option maxRecDepth 100000 in
theorem wk_X4_numberBatches {X : xX} {Qf : xS → State → Prop} {n : Nat} {k0 : Nat} {k1 : Nat} {σ : xS} (C : xCx X cX4_numberBatches "BakeryNight$Night" none { frames := 3, cells := 0, slots := 0, locals := 65 } 6) (hQ : ∀ τ, Qf τ = xQf X WW (none, τ)) (hk0 : isNt k0) (hk1 : isBk k1) : WO X Qf WW σ 0 [(0, .ref (xqa (xXE X).2.2 k0)), (1, .ref (xqa (xXE X).2.2 k1))] [] (m_X4_numberBatches n k0 k1 σ) := by
  unfold m_X4_numberBatches
  refine x_aload_n C 0 dX4_numberBatches_0 rfl rfl ?_
  refine x_iconst C (0) dX4_numberBatches_1 rfl ?_
  refine x_put C 2 0 cls_X4 (at_X4 hk0) (by decide) wd448 rfl rfl rfl rfl (xV_pI rfl) dX4_numberBatches_2 ?_
  refine x_letS (fun s1 => ?_)
  refine x_iconst C (0) dX4_numberBatches_5 rfl ?_
  refine x_istore_n (L' := [(2, _), (0, _), (1, _)]) C dX4_numberBatches_6 rfl (by decide) rfl ?_
  refine x_iconst C (0) dX4_numberBatches_7 rfl ?_
  refine x_istore_n (L' := [(3, _), (2, _), (0, _), (1, _)]) C dX4_numberBatches_8 rfl (by decide) rfl ?_
  refine x_pick [2, 3, 1, 0] rfl ?_
  refine x_loop (fun t2 : Int × Int × xS => t2.2.2) (fun t2 : Int × Int × xS => [(0, .ref (xqa (xXE X).2.2 k0)), (1, .ref (xqa (xXE X).2.2 k1)), (2, iV t2.1), (3, iV t2.2.1)]) (fun rec3 hr4 t2 => ?_) n (0, 0, s1)
  refine x_iload_n C 3 dX4_numberBatches_9 rfl rfl ?_
  refine x_aload_n C 1 dX4_numberBatches_10 rfl rfl ?_
  refine x_get (v := iV (t2.2.2 k1 5)) C 5 cls_X1 (at_X1 hk1) (by decide) wd353 rfl rfl dX4_numberBatches_11 ?_
  refine x_icmp_ge C 143 rfl rfl dX4_numberBatches_14 rfl (fun c5 => x_op c5 ?_) (fun c5 => x_on c5 ?_)
  · exact x_vretQ C (hQ _) rfl dX4_numberBatches_143
  · refine x_iconst C (-1) dX4_numberBatches_17 rfl ?_
    refine x_letI (fun v6 => ?_)
    refine x_istore (L' := [(4, _), (0, _), (1, _), (2, _), (3, _)]) C dX4_numberBatches_18 (by decide) rfl ?_
    refine x_iconst C (0) dX4_numberBatches_20 rfl ?_
    refine x_istore (L' := [(5, _), (4, _), (0, _), (1, _), (2, _), (3, _)]) C dX4_numberBatches_21 (by decide) rfl ?_
    refine x_pick [2, 3, 4, 5, 1, 0] rfl ?_
    refine x_loop (fun t7 : Int × Int => t2.2.2) (fun t7 : Int × Int => [(0, .ref (xqa (xXE X).2.2 k0)), (1, .ref (xqa (xXE X).2.2 k1)), (2, iV t2.1), (3, iV t2.2.1), (4, iV t7.1), (5, iV t7.2)]) (fun rec8 hr9 t7 => ?_) n (v6, 0)
    refine x_iload C 5 dX4_numberBatches_23 rfl ?_
    refine x_aload_n C 1 dX4_numberBatches_25 rfl rfl ?_
    refine x_get (v := iV (t2.2.2 k1 5)) C 5 cls_X1 (at_X1 hk1) (by decide) wd353 rfl rfl dX4_numberBatches_26 ?_
    refine x_icmp_ge C 72 rfl rfl dX4_numberBatches_29 rfl (fun c10 => x_op c10 ?_) (fun c10 => x_on c10 ?_)
    · refine x_iload C 4 dX4_numberBatches_72 rfl ?_
      refine x_iconst C (-1) dX4_numberBatches_74 rfl ?_
      refine x_icmp_ne C 79 rfl (zIl _ rfl) dX4_numberBatches_75 rfl (fun c11 => x_on c11 ?_) (fun c11 => x_op c11 ?_)
      · refine x_iload_n C 2 dX4_numberBatches_79 rfl rfl ?_
        refine x_iconst C (1) dX4_numberBatches_80 rfl ?_
        refine x_iload C 4 dX4_numberBatches_81 rfl ?_
        refine x_ishl C dX4_numberBatches_83 ?_
        refine x_ior C dX4_numberBatches_84 ?_
        refine x_letI (fun v12 => ?_)
        refine x_istore_n (L' := [(2, _), (0, _), (1, _), (3, _), (4, _), (5, _)]) C dX4_numberBatches_85 rfl (by decide) rfl ?_
        refine x_bipush C (60) dX4_numberBatches_86 rfl ?_
        refine x_aload_n C 1 dX4_numberBatches_88 rfl rfl ?_
        refine x_get (v := iV (t2.2.2 k0 2)) C 2 cls_X4 (at_X4 hk0) (by decide) wd448 rfl rfl dX4_numberBatches_89 ?_
        refine x_aload_n C 2 dX4_numberBatches_92 rfl rfl ?_
        refine x_iload C 4 dX4_numberBatches_93 rfl ?_
        refine x_callV C (ct_X1_batchesOf _ _ n k1 t7.1 t2.2.2 hk1) mt_X1_batchesOf vr_X1_batchesOf wd671 cls_X1 (at_X1 hk1) rfl ⟨rfl, rfl, Nat.le_of_ble_eq_true rfl, Nat.le_of_ble_eq_true rfl⟩ rfl (Nat.le_of_ble_eq_true rfl) dX4_numberBatches_95 (kI (fun v13 => ?_))
        refine x_iadd C dX4_numberBatches_98 ?_
        refine x_mmin C wd672 wd321 wd58 wd322 (Nat.le_of_ble_eq_true rfl) (Nat.le_of_ble_eq_true rfl) dX4_numberBatches_99 ?_
        refine x_letI (fun v14 => ?_)
        refine x_istore (L' := [(5, _), (2, _), (0, _), (1, _), (3, _), (4, _)]) C dX4_numberBatches_102 (by decide) rfl ?_
        refine x_pick [2, 3, 1, 4, 5, 0] rfl ?_
        refine x_loop (fun t15 : xS => t15) (fun t15 : xS => [(0, .ref (xqa (xXE X).2.2 k0)), (1, .ref (xqa (xXE X).2.2 k1)), (2, iV v12), (3, iV t2.2.1), (4, iV t7.1), (5, iV v14)]) (fun rec16 hr17 t15 => ?_) n t2.2.2
        refine x_aload_n C 0 dX4_numberBatches_104 rfl rfl ?_
        refine x_get (v := iV (t15 k0 2)) C 2 cls_X4 (at_X4 hk0) (by decide) wd448 rfl rfl dX4_numberBatches_105 ?_
        refine x_iload C 5 dX4_numberBatches_108 rfl ?_
        refine x_icmp_ge C 137 rfl rfl dX4_numberBatches_110 rfl (fun c18 => x_op c18 ?_) (fun c18 => x_on c18 ?_)
        · refine x_inc C 3 (f := _) dX4_numberBatches_137 rfl (by decide) (1) rfl (fun v19 => ?_)
          refine x_reL (L' := [(3, _), (0, _), (1, _), (2, _), (4, _), (5, _)]) rfl ?_
          refine x_goto C 9 dX4_numberBatches_140 rfl ?_
          refine x_pick [1, 2, 3, 0] rfl ?_
          exact hr4 (v12, v19, t15)
        · refine x_aload_n C 0 dX4_numberBatches_113 rfl rfl ?_
          refine x_get (v := .ref (xqa (xXE X).2.2 (k0 + 1))) C 3 cls_X4 (at_X4 hk0) (by decide) wd449 rfl (xV_r (rt_X4_dough hk0 _) rfl) dX4_numberBatches_114 ?_
          refine x_aload_n C 0 dX4_numberBatches_117 rfl rfl ?_
          refine x_get (v := iV (t15 k0 2)) C 2 cls_X4 (at_X4 hk0) (by decide) wd448 rfl rfl dX4_numberBatches_118 ?_
          refine x_iload C 4 dX4_numberBatches_121 rfl ?_
          refine x_iast C (at_X4_dough hk0) rfl dX4_numberBatches_123 (fun _ => ?_)
          refine x_letS (fun s20 => ?_)
          refine x_aload_n C 0 dX4_numberBatches_124 rfl rfl ?_
          refine x_dup C dX4_numberBatches_125 rfl ?_
          refine x_get (v := iV (s20 k0 2)) C 2 cls_X4 (at_X4 hk0) (by decide) wd448 rfl rfl dX4_numberBatches_126 ?_
          refine x_iconst C (1) dX4_numberBatches_129 rfl ?_
          refine x_iadd C dX4_numberBatches_130 ?_
          refine x_put C 2 ((s20 k0 2) + 1) cls_X4 (at_X4 hk0) (by decide) wd448 rfl rfl rfl rfl (xV_pI rfl) dX4_numberBatches_131 ?_
          refine x_letS (fun s21 => ?_)
          refine x_goto C 104 dX4_numberBatches_134 rfl ?_
          refine x_pick [0, 1, 2, 3, 4, 5] rfl ?_
          exact hr17 s21
      · exact x_vretQ C (hQ _) rfl dX4_numberBatches_78
    · refine x_iload_n C 2 dX4_numberBatches_32 rfl rfl ?_
      refine x_iload C 5 dX4_numberBatches_33 rfl ?_
      refine x_ishr C dX4_numberBatches_35 ?_
      refine x_iconst C (1) dX4_numberBatches_36 rfl ?_
      refine x_iand C dX4_numberBatches_37 ?_
      refine x_join (fun J => ∀ q24 : Int, WO X Qf WW t2.2.2 66 [(0, .ref (xqa (xXE X).2.2 k0)), (1, .ref (xqa (xXE X).2.2 k1)), (2, iV t2.1), (3, iV t2.2.1), (4, iV q24), (5, iV t7.2)] [] (J q24)) ?_ ?_
      · intro q24
        refine x_inc C 5 (f := _) dX4_numberBatches_66 rfl (by decide) (1) rfl (fun v25 => ?_)
        refine x_reL (L' := [(5, _), (0, _), (1, _), (2, _), (3, _), (4, _)]) rfl ?_
        refine x_goto C 23 dX4_numberBatches_69 rfl ?_
        refine x_pick [1, 2, 3, 4, 5, 0] rfl ?_
        exact hr9 (q24, v25)
      · intro J22 hJ23
        refine x_if_ne C 66 rfl dX4_numberBatches_38 rfl (fun c26 => x_on c26 ?_) (fun c26 => x_op c26 ?_)
        · refine x_pick [0, 1, 2, 3, 4, 5] rfl ?_
          exact hJ23 t7.1
        · refine x_iload C 4 dX4_numberBatches_41 rfl ?_
          refine x_iconst C (-1) dX4_numberBatches_43 rfl ?_
          refine x_join (fun J => ∀ q30 : Unit, WO X Qf WW t2.2.2 62 [(0, .ref (xqa (xXE X).2.2 k0)), (1, .ref (xqa (xXE X).2.2 k1)), (2, iV t2.1), (3, iV t2.2.1), (5, iV t7.2)] [] (J q30)) ?_ ?_
          · intro q30
            refine x_iload C 4 dX4_numberBatches_62 rfl ?_
            refine x_istore (L' := [(4, _), (0, _), (1, _), (2, _), (3, _), (5, _)]) C dX4_numberBatches_64 (by decide) rfl ?_
            refine x_pick [1, 2, 3, 4, 0, 5] rfl ?_
            exact hJ23 t7.2
          · intro J28 hJ29
            refine x_icmp_eq C 62 rfl (zIl _ rfl) dX4_numberBatches_44 rfl (fun c31 => x_op c31 ?_) (fun c31 => x_on c31 ?_)
            · refine x_pick [0, 1, 2, 3, 5] rfl ?_
              exact hJ29 ()
            · refine x_aload_n C 1 dX4_numberBatches_47 rfl rfl ?_
              refine x_iload C 5 dX4_numberBatches_48 rfl ?_
              refine x_callV C (ct_X1_dueOf _ _ n k1 t7.2 t2.2.2 hk1) mt_X1_dueOf vr_X1_dueOf wd666 cls_X1 (at_X1 hk1) rfl ⟨rfl, rfl, Nat.le_of_ble_eq_true rfl, Nat.le_of_ble_eq_true rfl⟩ rfl (by decide) dX4_numberBatches_50 (kI (fun v32 => ?_))
              refine x_aload_n C 1 dX4_numberBatches_53 rfl rfl ?_
              refine x_iload C 4 dX4_numberBatches_54 rfl ?_
              refine x_callV C (ct_X1_dueOf _ _ n k1 t7.1 t2.2.2 hk1) mt_X1_dueOf vr_X1_dueOf wd666 cls_X1 (at_X1 hk1) rfl ⟨rfl, rfl, Nat.le_of_ble_eq_true rfl, Nat.le_of_ble_eq_true rfl⟩ rfl (Nat.le_of_ble_eq_true rfl) dX4_numberBatches_56 (kI (fun v33 => ?_))
              refine x_icmp_ge C 66 rfl rfl dX4_numberBatches_59 rfl (fun c34 => x_op c34 ?_) (fun c34 => x_on c34 ?_)
              · refine x_pick [0, 1, 2, 3, 4, 5] rfl ?_
                exact hJ23 t7.1
              · refine x_pick [0, 1, 2, 3, 5] rfl ?_
                exact hJ29 ()
theorem ct_X4_numberBatches (l : Launch) (E : xE) (n : Nat) (k0 : Nat) (k1 : Nat) (σ : xS) (hk0 : isNt k0) (hk1 : isBk k1)  : xMet l E yX4_numberBatches cX4_numberBatches 6 none { frames := 3, cells := 0, slots := 0, locals := 65 } [.ref (xqa E.2.2 k0), .ref (xqa E.2.2 k1)] WW WW σ (xrV (m_X4_numberBatches n k0 k1 σ)) := by
  refine xMet.of0 (by decide) (Nat.le_of_ble_eq_true rfl) rfl rfl (fun X hE C => ?_)
  subst hE
  exact xMap (fun q => (none, q)) (wk_X4_numberBatches C (fun _ => rfl) hk0 hk1)
theorem mt_X4_numberBatches : xMth yX4_numberBatches cX4_numberBatches 6 none 1 := ⟨wd665, wd60, ⟨by decide, by decide, rfl⟩⟩
theorem vr_X4_numberBatches : xVir yX4_numberBatches := ⟨wd664, wd4⟩
