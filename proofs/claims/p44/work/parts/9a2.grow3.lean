/-! WALKS over any world that holds what they need: the methods that constructors call -/
theorem aw {w : xW} {lo hi k c n : Nat} (hw : InW w lo hi) (h : xAt WW k c n) (h1 : lo ≤ k) (h2 : k < hi) : xAt w k c n := ⟨(hw k h1 h2).1, (hw k h1 h2).2.1.trans h.2⟩
theorem rwW {w : xW} {lo hi k j a : Nat} {v : Int} (hw : InW w lo hi) (h : WW.2.2 k j v = some a) (h1 : lo ≤ k) (h2 : k < hi) : w.2.2 k j v = some a := ((hw k h1 h2).2.2 j v).trans h
set_option maxHeartbeats 4000000 in
set_option maxRecDepth 100000 in
theorem wg_J7_fill_53178 {w : xW} {X : xX} {Qf : xS → State → Prop} {n : Nat} {k1 z1 : Nat} {p2 : Int} {σ : xS} (C : xCx X cJ7_fill_53178 "java/util/Arrays" none { frames := 0, cells := 0, slots := 0, locals := 0 } 4) (hQ : ∀ τ, Qf τ = xQf X w (none, τ)) (hk1 : xAt w k1 0 z1) : WO X Qf w σ 0 [(0, .ref (xqa (xXE X).2.2 k1)), (1, iV p2)] [] (m_J7_fill_53178 n k1 z1 p2 σ) := by
  unfold m_J7_fill_53178
  refine x_iconst C (0) dJ7_fill_53178_0 rfl ?_
  refine x_istore_n (L' := [(2, _), (0, _), (1, _)]) C dJ7_fill_53178_1 rfl (by decide) rfl ?_
  refine x_aload_n C 1 dJ7_fill_53178_2 rfl rfl ?_
  refine x_alen C _ hk1 (by decide) (ofN _) dJ7_fill_53178_3 ?_
  refine x_letI (fun v1 => ?_)
  refine x_istore_n (L' := [(3, _), (2, _), (0, _), (1, _)]) C dJ7_fill_53178_4 rfl (by decide) rfl ?_
  refine x_pick [2, 3, 1, 0] rfl ?_
  refine x_loop (fun t2 : Int × xS => t2.2) (fun t2 : Int × xS => [(0, .ref (xqa (xXE X).2.2 k1)), (1, iV p2), (2, iV t2.1), (3, iV v1)]) (fun rec3 hr4 t2 => ?_) n (0, σ)
  refine x_iload_n C 2 dJ7_fill_53178_5 rfl rfl ?_
  refine x_iload_n C 3 dJ7_fill_53178_6 rfl rfl ?_
  refine x_icmp_ge C 20 rfl rfl dJ7_fill_53178_7 rfl (fun c5 => x_op c5 ?_) (fun c5 => x_on c5 ?_)
  · exact x_vretQ C (hQ _) rfl dJ7_fill_53178_20
  · refine x_aload_n C 0 dJ7_fill_53178_10 rfl rfl ?_
    refine x_iload_n C 2 dJ7_fill_53178_11 rfl rfl ?_
    refine x_iload_n C 1 dJ7_fill_53178_12 rfl rfl ?_
    refine x_iast C hk1 rfl dJ7_fill_53178_13 (fun _ => ?_)
    refine x_letS (fun s6 => ?_)
    refine x_inc C 2 (f := _) dJ7_fill_53178_14 rfl (by decide) (1) rfl (fun v7 => ?_)
    refine x_reL (L' := [(2, _), (0, _), (1, _), (3, _)]) rfl ?_
    refine x_goto C 5 dJ7_fill_53178_17 rfl ?_
    refine x_pick [1, 2, 0, 3] rfl ?_
    exact hr4 (v7, s6)
theorem cg_J7_fill_53178 {w : xW} (l : Launch) (E : xE) (n : Nat) (k1 z1 : Nat) (p2 : Int) (σ : xS) (hk1 : xAt w k1 0 z1)  : xMet l E yJ7_fill_53178 cJ7_fill_53178 4 none { frames := 0, cells := 0, slots := 0, locals := 0 } [.ref (xqa E.2.2 k1), iV p2] w w σ (xrV (m_J7_fill_53178 n k1 z1 p2 σ)) := by
  refine xMet.of0 (by decide) (Nat.le_of_ble_eq_true rfl) rfl rfl (fun X hE C => ?_)
  subst hE
  exact xMap (fun q => (none, q)) (wg_J7_fill_53178 C (fun _ => rfl) hk1)
set_option maxHeartbeats 4000000 in
set_option maxRecDepth 100000 in
theorem wg_X9_by {w : xW} {X : xX} {Qf : Int → State → Prop} {k0 : Nat} {p1 : Int} {p2 : Int} {p3 : Int} {σ : xS} (C : xCx X cX9_by "BakeryNight$Roads" (some .int) { frames := 0, cells := 0, slots := 0, locals := 0 } 4) (hQ : ∀ v, Qf v = xQf X w (some (iV v), σ)) (hk0 : isRd k0) (hw : InW w k0 (k0 + 15)) : WO X Qf w σ 0 [(0, .ref (xqa (xXE X).2.2 k0)), (1, iV p1), (2, iV p2), (3, iV p3)] [] (m_X9_by k0 p1 p2 p3 σ) := by
  unfold m_X9_by
  refine x_aload_n C 0 dX9_by_0 rfl rfl ?_
  refine x_get (v := .ref (xqa (xXE X).2.2 (k0 + 5))) C 5 cls_X9 (aw hw (at_X9 hk0) (by omega) (by omega)) (by decide) wd289 rfl (xV_r (rwW hw (rt_X9_shortest hk0 _) (by omega) (by omega)) rfl) dX9_by_1 ?_
  refine x_iload_n C 1 dX9_by_4 rfl rfl ?_
  refine x_aald C (aw hw (at_X9_shortest hk0) (by omega) (by omega)) (by decide) rfl (fun h1 => rwW hw (rl_X9_shortest hk0 _ h1) (by omega) (by omega)) dX9_by_5 (fun h1 => ?_)
  refine x_iload_n C 2 dX9_by_6 rfl rfl ?_
  refine x_iald C (aw hw (el_X9_shortest hk0 h1) (by omega) (by omega)) rfl dX9_by_7 (fun _ => ?_)
  refine x_aload_n C 0 dX9_by_8 rfl rfl ?_
  refine x_get (v := .ref (xqa (xXE X).2.2 (k0 + 14))) C 6 cls_X9 (aw hw (at_X9 hk0) (by omega) (by omega)) (by decide) wd290 rfl (xV_r (rwW hw (rt_X9_rest hk0 _) (by omega) (by omega)) rfl) dX9_by_9 ?_
  refine x_iload_n C 3 dX9_by_12 rfl rfl ?_
  refine x_iconst C (1) dX9_by_13 rfl ?_
  refine x_iload_n C 2 dX9_by_14 rfl rfl ?_
  refine x_ishl C dX9_by_15 ?_
  refine x_iconst C (-1) dX9_by_16 rfl ?_
  refine x_ixor C dX9_by_17 ?_
  refine x_iand C dX9_by_18 ?_
  refine x_bipush C (8) dX9_by_19 rfl ?_
  refine x_imul C dX9_by_21 ?_
  refine x_iload_n C 2 dX9_by_22 rfl rfl ?_
  refine x_iadd C dX9_by_23 ?_
  refine x_iald C (aw hw (at_X9_rest hk0) (by omega) (by omega)) rfl dX9_by_24 (fun _ => ?_)
  refine x_iadd C dX9_by_25 ?_
  exact x_iretQ C (hQ _) rfl dX9_by_26
theorem cg_X9_by {w : xW} (l : Launch) (E : xE) (k0 : Nat) (p1 : Int) (p2 : Int) (p3 : Int) (σ : xS) (hk0 : isRd k0) (hw : InW w k0 (k0 + 15))  : xMet l E yX9_by cX9_by 4 (some .int) { frames := 0, cells := 0, slots := 0, locals := 0 } [.ref (xqa E.2.2 k0), iV p1, iV p2, iV p3] w w σ (xrI (m_X9_by k0 p1 p2 p3 σ) σ) := by
  refine xMet.of0 (by decide) (Nat.le_of_ble_eq_true rfl) rfl rfl (fun X hE C => ?_)
  subst hE
  exact xMap (fun v => (some (iV v), σ)) (wg_X9_by C (fun _ => rfl) hk0 hw)
set_option maxHeartbeats 4000000 in
set_option maxRecDepth 100000 in
theorem wg_X9_joinStreets {w : xW} {X : xX} {Qf : xS → State → Prop} {n : Nat} {k0 : Nat} {σ : xS} (C : xCx X cX9_joinStreets "BakeryNight$Roads" none { frames := 1, cells := 0, slots := 0, locals := 21 } 5) (hQ : ∀ τ, Qf τ = xQf X w (none, τ)) (hk0 : isRd k0) (hw : InW w k0 (k0 + 15)) : WO X Qf w σ 0 [(0, .ref (xqa (xXE X).2.2 k0))] [] (m_X9_joinStreets n k0 σ) := by
  unfold m_X9_joinStreets
  refine x_iconst C (0) dX9_joinStreets_0 rfl ?_
  refine x_istore_n (L' := [(1, _), (0, _)]) C dX9_joinStreets_1 rfl (by decide) rfl ?_
  refine x_pick [1, 0] rfl ?_
  refine x_loop (fun t1 : Int × xS => t1.2) (fun t1 : Int × xS => [(0, .ref (xqa (xXE X).2.2 k0)), (1, iV t1.1)]) (fun rec2 hr3 t1 => ?_) n (0, σ)
  refine x_iload_n C 1 dX9_joinStreets_2 rfl rfl ?_
  refine x_bipush C (8) dX9_joinStreets_3 rfl ?_
  refine x_icmp_ge C 82 rfl (zIl _ rfl) dX9_joinStreets_5 rfl (fun c4 => x_op c4 ?_) (fun c4 => x_on c4 ?_)
  · exact x_vretQ C (hQ _) rfl dX9_joinStreets_82
  · refine x_iconst C (0) dX9_joinStreets_8 rfl ?_
    refine x_istore_n (L' := [(2, _), (0, _), (1, _)]) C dX9_joinStreets_9 rfl (by decide) rfl ?_
    refine x_pick [1, 2, 0] rfl ?_
    refine x_loop (fun t5 : Int × xS => t5.2) (fun t5 : Int × xS => [(0, .ref (xqa (xXE X).2.2 k0)), (1, iV t1.1), (2, iV t5.1)]) (fun rec6 hr7 t5 => ?_) n (0, t1.2)
    refine x_iload_n C 2 dX9_joinStreets_10 rfl rfl ?_
    refine x_bipush C (8) dX9_joinStreets_11 rfl ?_
    refine x_icmp_ge C 76 rfl (zIl _ rfl) dX9_joinStreets_13 rfl (fun c8 => x_op c8 ?_) (fun c8 => x_on c8 ?_)
    · refine x_inc C 1 (f := _) dX9_joinStreets_76 rfl (by decide) (1) rfl (fun v9 => ?_)
      refine x_reL (L' := [(1, _), (0, _), (2, _)]) rfl ?_
      refine x_goto C 2 dX9_joinStreets_79 rfl ?_
      refine x_pick [1, 0] rfl ?_
      exact hr3 (v9, t5.2)
    · refine x_iconst C (0) dX9_joinStreets_16 rfl ?_
      refine x_istore_n (L' := [(3, _), (0, _), (1, _), (2, _)]) C dX9_joinStreets_17 rfl (by decide) rfl ?_
      refine x_pick [1, 2, 3, 0] rfl ?_
      refine x_loop (fun t10 : Int × xS => t10.2) (fun t10 : Int × xS => [(0, .ref (xqa (xXE X).2.2 k0)), (1, iV t1.1), (2, iV t5.1), (3, iV t10.1)]) (fun rec11 hr12 t10 => ?_) n (0, t5.2)
      refine x_iload_n C 3 dX9_joinStreets_18 rfl rfl ?_
      refine x_bipush C (8) dX9_joinStreets_19 rfl ?_
      refine x_icmp_ge C 70 rfl (zIl _ rfl) dX9_joinStreets_21 rfl (fun c13 => x_op c13 ?_) (fun c13 => x_on c13 ?_)
      · refine x_inc C 2 (f := _) dX9_joinStreets_70 rfl (by decide) (1) rfl (fun v14 => ?_)
        refine x_reL (L' := [(2, _), (0, _), (1, _), (3, _)]) rfl ?_
        refine x_goto C 10 dX9_joinStreets_73 rfl ?_
        refine x_pick [1, 2, 0] rfl ?_
        exact hr7 (v14, t10.2)
      · refine x_aload_n C 0 dX9_joinStreets_24 rfl rfl ?_
        refine x_get (v := .ref (xqa (xXE X).2.2 (k0 + 5))) C 5 cls_X9 (aw hw (at_X9 hk0) (by omega) (by omega)) (by decide) wd289 rfl (xV_r (rwW hw (rt_X9_shortest hk0 _) (by omega) (by omega)) rfl) dX9_joinStreets_25 ?_
        refine x_iload_n C 2 dX9_joinStreets_28 rfl rfl ?_
        refine x_aald C (aw hw (at_X9_shortest hk0) (by omega) (by omega)) (by decide) rfl (fun h15 => rwW hw (rl_X9_shortest hk0 _ h15) (by omega) (by omega)) dX9_joinStreets_29 (fun h15 => ?_)
        refine x_iload_n C 1 dX9_joinStreets_30 rfl rfl ?_
        refine x_iald C (aw hw (el_X9_shortest hk0 h15) (by omega) (by omega)) rfl dX9_joinStreets_31 (fun _ => ?_)
        refine x_aload_n C 0 dX9_joinStreets_32 rfl rfl ?_
        refine x_get (v := .ref (xqa (xXE X).2.2 (k0 + 5))) C 5 cls_X9 (aw hw (at_X9 hk0) (by omega) (by omega)) (by decide) wd289 rfl (xV_r (rwW hw (rt_X9_shortest hk0 _) (by omega) (by omega)) rfl) dX9_joinStreets_33 ?_
        refine x_iload_n C 1 dX9_joinStreets_36 rfl rfl ?_
        refine x_aald C (aw hw (at_X9_shortest hk0) (by omega) (by omega)) (by decide) rfl (fun h16 => rwW hw (rl_X9_shortest hk0 _ h16) (by omega) (by omega)) dX9_joinStreets_37 (fun h16 => ?_)
        refine x_iload_n C 3 dX9_joinStreets_38 rfl rfl ?_
        refine x_iald C (aw hw (el_X9_shortest hk0 h16) (by omega) (by omega)) rfl dX9_joinStreets_39 (fun _ => ?_)
        refine x_iadd C dX9_joinStreets_40 ?_
        refine x_letI (fun v17 => ?_)
        refine x_istore (L' := [(4, _), (0, _), (1, _), (2, _), (3, _)]) C dX9_joinStreets_41 (by decide) rfl ?_
        refine x_aload_n C 1 dX9_joinStreets_43 rfl rfl ?_
        refine x_get (v := .ref (xqa (xXE X).2.2 (k0 + 5))) C 5 cls_X9 (aw hw (at_X9 hk0) (by omega) (by omega)) (by decide) wd289 rfl (xV_r (rwW hw (rt_X9_shortest hk0 _) (by omega) (by omega)) rfl) dX9_joinStreets_44 ?_
        refine x_iload_n C 3 dX9_joinStreets_47 rfl rfl ?_
        refine x_aald C (aw hw (at_X9_shortest hk0) (by omega) (by omega)) (by decide) rfl (fun h18 => rwW hw (rl_X9_shortest hk0 _ h18) (by omega) (by omega)) dX9_joinStreets_48 (fun h18 => ?_)
        refine x_iload_n C 4 dX9_joinStreets_49 rfl rfl ?_
        refine x_aload_n C 1 dX9_joinStreets_50 rfl rfl ?_
        refine x_get (v := .ref (xqa (xXE X).2.2 (k0 + 5))) C 5 cls_X9 (aw hw (at_X9 hk0) (by omega) (by omega)) (by decide) wd289 rfl (xV_r (rwW hw (rt_X9_shortest hk0 _) (by omega) (by omega)) rfl) dX9_joinStreets_51 ?_
        refine x_iload_n C 3 dX9_joinStreets_54 rfl rfl ?_
        refine x_aald C (aw hw (at_X9_shortest hk0) (by omega) (by omega)) (by decide) rfl (fun h19 => rwW hw (rl_X9_shortest hk0 _ h19) (by omega) (by omega)) dX9_joinStreets_55 (fun h19 => ?_)
        refine x_iload_n C 4 dX9_joinStreets_56 rfl rfl ?_
        refine x_iald C (aw hw (el_X9_shortest hk0 h19) (by omega) (by omega)) rfl dX9_joinStreets_57 (fun _ => ?_)
        refine x_iload C 0 dX9_joinStreets_58 rfl ?_
        refine x_mmin C wd320 wd321 wd58 wd322 (Nat.le_of_ble_eq_true rfl) (Nat.le_of_ble_eq_true rfl) dX9_joinStreets_60 ?_
        refine x_iast C (aw hw (el_X9_shortest hk0 h18) (by omega) (by omega)) rfl dX9_joinStreets_63 (fun _ => ?_)
        refine x_letS (fun s20 => ?_)
        refine x_inc C 4 (f := _) dX9_joinStreets_64 rfl (by decide) (1) rfl (fun v21 => ?_)
        refine x_reL (L' := [(3, _), (4, _), (0, _), (1, _), (2, _)]) rfl ?_
        refine x_goto C 18 dX9_joinStreets_67 rfl ?_
        refine x_pick [2, 3, 4, 0] rfl ?_
        exact hr12 (v21, s20)
theorem cg_X9_joinStreets {w : xW} (l : Launch) (E : xE) (n : Nat) (k0 : Nat) (σ : xS) (hk0 : isRd k0) (hw : InW w k0 (k0 + 15))  : xMet l E yX9_joinStreets cX9_joinStreets 5 none { frames := 1, cells := 0, slots := 0, locals := 21 } [.ref (xqa E.2.2 k0)] w w σ (xrV (m_X9_joinStreets n k0 σ)) := by
  refine xMet.of0 (by decide) (Nat.le_of_ble_eq_true rfl) rfl rfl (fun X hE C => ?_)
  subst hE
  exact xMap (fun q => (none, q)) (wg_X9_joinStreets C (fun _ => rfl) hk0 hw)
set_option maxHeartbeats 4000000 in
set_option maxRecDepth 100000 in
theorem wg_X9_measureRoutes {w : xW} {X : xX} {Qf : xS → State → Prop} {n : Nat} {k0 : Nat} {p1 : Int} {σ : xS} (C : xCx X cX9_measureRoutes "BakeryNight$Roads" none { frames := 1, cells := 0, slots := 0, locals := 23 } 6) (hQ : ∀ τ, Qf τ = xQf X w (none, τ)) (hk0 : isRd k0) (hw : InW w k0 (k0 + 15)) : WO X Qf w σ 0 [(0, .ref (xqa (xXE X).2.2 k0)), (1, iV p1)] [] (m_X9_measureRoutes n k0 p1 σ) := by
  unfold m_X9_measureRoutes
  refine x_iconst C (0) dX9_measureRoutes_0 rfl ?_
  refine x_istore_n (L' := [(2, _), (0, _), (1, _)]) C dX9_measureRoutes_1 rfl (by decide) rfl ?_
  refine x_pick [1, 2, 0] rfl ?_
  refine x_loop (fun t1 : Int × xS => t1.2) (fun t1 : Int × xS => [(0, .ref (xqa (xXE X).2.2 k0)), (1, iV p1), (2, iV t1.1)]) (fun rec2 hr3 t1 => ?_) n (0, σ)
  refine x_iload_n C 2 dX9_measureRoutes_2 rfl rfl ?_
  refine x_iconst C (1) dX9_measureRoutes_3 rfl ?_
  refine x_iload_n C 1 dX9_measureRoutes_4 rfl rfl ?_
  refine x_ishl C dX9_measureRoutes_5 ?_
  refine x_icmp_ge C 93 rfl rfl dX9_measureRoutes_6 rfl (fun c4 => x_op c4 ?_) (fun c4 => x_on c4 ?_)
  · exact x_vretQ C (hQ _) rfl dX9_measureRoutes_93
  · refine x_iconst C (0) dX9_measureRoutes_9 rfl ?_
    refine x_istore_n (L' := [(3, _), (0, _), (1, _), (2, _)]) C dX9_measureRoutes_10 rfl (by decide) rfl ?_
    refine x_pick [1, 2, 3, 0] rfl ?_
    refine x_loop (fun t5 : Int × xS => t5.2) (fun t5 : Int × xS => [(0, .ref (xqa (xXE X).2.2 k0)), (1, iV p1), (2, iV t1.1), (3, iV t5.1)]) (fun rec6 hr7 t5 => ?_) n (0, t1.2)
    refine x_iload_n C 3 dX9_measureRoutes_11 rfl rfl ?_
    refine x_bipush C (8) dX9_measureRoutes_12 rfl ?_
    refine x_icmp_ge C 87 rfl (zIl _ rfl) dX9_measureRoutes_14 rfl (fun c8 => x_op c8 ?_) (fun c8 => x_on c8 ?_)
    · refine x_inc C 2 (f := _) dX9_measureRoutes_87 rfl (by decide) (1) rfl (fun v9 => ?_)
      refine x_reL (L' := [(2, _), (0, _), (1, _), (3, _)]) rfl ?_
      refine x_goto C 2 dX9_measureRoutes_90 rfl ?_
      refine x_pick [1, 2, 0] rfl ?_
      exact hr3 (v9, t5.2)
    · refine x_iload_n C 2 dX9_measureRoutes_17 rfl rfl ?_
      refine x_tree 27 [] (fun v10 => ?_) (fun hJ25 => ?_)
      · refine x_istore (L' := [(4, _), (0, _), (1, _), (2, _), (3, _)]) C dX9_measureRoutes_27 (by decide) rfl ?_
        refine x_iconst C (0) dX9_measureRoutes_29 rfl ?_
        refine x_istore (L' := [(5, _), (4, _), (0, _), (1, _), (2, _), (3, _)]) C dX9_measureRoutes_30 (by decide) rfl ?_
        refine x_pick [2, 3, 4, 5, 1, 0] rfl ?_
        refine x_loop (fun t11 : Int × Int => t5.2) (fun t11 : Int × Int => [(0, .ref (xqa (xXE X).2.2 k0)), (1, iV p1), (2, iV t1.1), (3, iV t5.1), (4, iV t11.1), (5, iV t11.2)]) (fun rec12 hr13 t11 => ?_) n (v10, 0)
        refine x_iload C 5 dX9_measureRoutes_32 rfl ?_
        refine x_iload_n C 1 dX9_measureRoutes_34 rfl rfl ?_
        refine x_icmp_ge C 68 rfl rfl dX9_measureRoutes_35 rfl (fun c14 => x_op c14 ?_) (fun c14 => x_on c14 ?_)
        · refine x_aload_n C 0 dX9_measureRoutes_68 rfl rfl ?_
          refine x_get (v := .ref (xqa (xXE X).2.2 (k0 + 14))) C 6 cls_X9 (aw hw (at_X9 hk0) (by omega) (by omega)) (by decide) wd290 rfl (xV_r (rwW hw (rt_X9_rest hk0 _) (by omega) (by omega)) rfl) dX9_measureRoutes_69 ?_
          refine x_iload_n C 2 dX9_measureRoutes_72 rfl rfl ?_
          refine x_bipush C (8) dX9_measureRoutes_73 rfl ?_
          refine x_imul C dX9_measureRoutes_75 ?_
          refine x_iload_n C 3 dX9_measureRoutes_76 rfl rfl ?_
          refine x_iadd C dX9_measureRoutes_77 ?_
          refine x_iload C 4 dX9_measureRoutes_78 rfl ?_
          refine x_iast C (aw hw (at_X9_rest hk0) (by omega) (by omega)) rfl dX9_measureRoutes_80 (fun _ => ?_)
          refine x_letS (fun s15 => ?_)
          refine x_inc C 3 (f := _) dX9_measureRoutes_81 rfl (by decide) (1) rfl (fun v16 => ?_)
          refine x_reL (L' := [(3, _), (0, _), (1, _), (2, _), (4, _), (5, _)]) rfl ?_
          refine x_goto C 11 dX9_measureRoutes_84 rfl ?_
          refine x_pick [1, 2, 3, 0] rfl ?_
          exact hr7 (v16, s15)
        · refine x_iload_n C 2 dX9_measureRoutes_38 rfl rfl ?_
          refine x_iload C 5 dX9_measureRoutes_39 rfl ?_
          refine x_ishr C dX9_measureRoutes_41 ?_
          refine x_iconst C (1) dX9_measureRoutes_42 rfl ?_
          refine x_iand C dX9_measureRoutes_43 ?_
          refine x_join (fun J => ∀ q20 : Int, WO X Qf w t5.2 62 [(0, .ref (xqa (xXE X).2.2 k0)), (1, iV p1), (2, iV t1.1), (3, iV t5.1), (4, iV q20), (5, iV t11.2)] [] (J q20)) ?_ ?_
          · intro q20
            refine x_inc C 5 (f := _) dX9_measureRoutes_62 rfl (by decide) (1) rfl (fun v21 => ?_)
            refine x_reL (L' := [(5, _), (0, _), (1, _), (2, _), (3, _), (4, _)]) rfl ?_
            refine x_goto C 32 dX9_measureRoutes_65 rfl ?_
            refine x_pick [1, 2, 3, 4, 5, 0] rfl ?_
            exact hr13 (q20, v21)
          · intro J18 hJ19
            refine x_if_eq C 62 rfl dX9_measureRoutes_44 rfl (fun c22 => x_op c22 ?_) (fun c22 => x_on c22 ?_)
            · refine x_pick [0, 1, 2, 3, 4, 5] rfl ?_
              exact hJ19 t11.1
            · refine x_iload C 4 dX9_measureRoutes_47 rfl ?_
              refine x_aload_n C 0 dX9_measureRoutes_49 rfl rfl ?_
              refine x_iload_n C 3 dX9_measureRoutes_50 rfl rfl ?_
              refine x_iload C 5 dX9_measureRoutes_51 rfl ?_
              refine x_iload_n C 2 dX9_measureRoutes_53 rfl rfl ?_
              refine x_callV C (cg_X9_by _ _ k0 t5.1 t11.2 t1.1 t5.2 hk0 hw) mt_X9_by vr_X9_by wd332 cls_X9 (aw hw (at_X9 hk0) (by omega) (by omega)) rfl ⟨rfl, rfl, Nat.le_of_ble_eq_true rfl, Nat.le_of_ble_eq_true rfl⟩ rfl (Nat.le_of_ble_eq_true rfl) dX9_measureRoutes_54 (kI (fun v23 => ?_))
              refine x_mmin C wd320 wd321 wd58 wd322 (Nat.le_of_ble_eq_true rfl) (Nat.le_of_ble_eq_true rfl) dX9_measureRoutes_57 ?_
              refine x_letI (fun v24 => ?_)
              refine x_istore (L' := [(4, _), (0, _), (1, _), (2, _), (3, _), (5, _)]) C dX9_measureRoutes_60 (by decide) rfl ?_
              refine x_pick [1, 2, 3, 4, 0, 5] rfl ?_
              exact hJ19 v24
      · refine x_if_ne C 25 rfl dX9_measureRoutes_18 rfl (fun c26 => ?_) (fun c26 => ?_)
        · refine x_ldc C (8000000) wd331 rfl dX9_measureRoutes_25 ?_
          exact hJ25 _ (by rw [if_neg c26])
        · refine x_iconst C (0) dX9_measureRoutes_21 rfl ?_
          refine x_goto C 27 dX9_measureRoutes_22 rfl ?_
          exact hJ25 _ (by rw [if_pos c26])
theorem cg_X9_measureRoutes {w : xW} (l : Launch) (E : xE) (n : Nat) (k0 : Nat) (p1 : Int) (σ : xS) (hk0 : isRd k0) (hw : InW w k0 (k0 + 15))  : xMet l E yX9_measureRoutes cX9_measureRoutes 6 none { frames := 1, cells := 0, slots := 0, locals := 23 } [.ref (xqa E.2.2 k0), iV p1] w w σ (xrV (m_X9_measureRoutes n k0 p1 σ)) := by
  refine xMet.of0 (by decide) (Nat.le_of_ble_eq_true rfl) rfl rfl (fun X hE C => ?_)
  subst hE
  exact xMap (fun q => (none, q)) (wg_X9_measureRoutes C (fun _ => rfl) hk0 hw)
set_option maxHeartbeats 4000000 in
set_option maxRecDepth 100000 in
theorem wg_X9_explore {w : xW} {X : xX} {Qf : xS → State → Prop} {n : Nat} {k0 : Nat} {p1 : Int} {p2 : Int} {σ : xS} (C : xCx X cX9_explore "BakeryNight$Roads" none { frames := 2, cells := 0, slots := 0, locals := 48 } 5) (hQ : ∀ τ, Qf τ = xQf X w (none, τ)) (hk0 : isRd k0) (hw : InW w k0 (k0 + 15)) : WO X Qf w σ 0 [(0, .ref (xqa (xXE X).2.2 k0)), (1, iV p1), (2, iV p2)] [] (m_X9_explore n k0 p1 p2 σ) := by
  unfold m_X9_explore
  refine x_iconst C (0) dX9_explore_0 rfl ?_
  refine x_istore_n (L' := [(3, _), (0, _), (1, _), (2, _)]) C dX9_explore_1 rfl (by decide) rfl ?_
  refine x_pick [1, 2, 3, 0] rfl ?_
  refine x_loop (fun t1 : Int × xS => t1.2) (fun t1 : Int × xS => [(0, .ref (xqa (xXE X).2.2 k0)), (1, iV p1), (2, iV p2), (3, iV t1.1)]) (fun rec2 hr3 t1 => ?_) n (0, σ)
  refine x_iload_n C 3 dX9_explore_2 rfl rfl ?_
  refine x_bipush C (8) dX9_explore_3 rfl ?_
  refine x_icmp_ge C 34 rfl (zIl _ rfl) dX9_explore_5 rfl (fun c4 => x_op c4 ?_) (fun c4 => x_on c4 ?_)
  · refine x_iconst C (0) dX9_explore_34 rfl ?_
    refine x_istore_n (L' := [(3, _), (0, _), (1, _), (2, _)]) C dX9_explore_35 rfl (by decide) rfl ?_
    refine x_pick [1, 2, 3, 0] rfl ?_
    refine x_loop (fun t5 : Int × xS => t5.2) (fun t5 : Int × xS => [(0, .ref (xqa (xXE X).2.2 k0)), (1, iV p1), (2, iV p2), (3, iV t5.1)]) (fun rec6 hr7 t5 => ?_) n (0, t1.2)
    refine x_iload_n C 3 dX9_explore_36 rfl rfl ?_
    refine x_aload_n C 0 dX9_explore_37 rfl rfl ?_
    refine x_get (v := iV (t5.2 k0 4)) C 4 cls_X9 (aw hw (at_X9 hk0) (by omega) (by omega)) (by decide) wd286 rfl rfl dX9_explore_38 ?_
    refine x_icmp_ge C 133 rfl rfl dX9_explore_41 rfl (fun c8 => x_op c8 ?_) (fun c8 => x_on c8 ?_)
    · refine x_aload_n C 0 dX9_explore_133 rfl rfl ?_
      refine x_callV C (cg_X9_joinStreets _ _ n k0 t5.2 hk0 hw) mt_X9_joinStreets vr_X9_joinStreets wd323 cls_X9 (aw hw (at_X9 hk0) (by omega) (by omega)) rfl ⟨rfl, rfl, Nat.le_of_ble_eq_true rfl, Nat.le_of_ble_eq_true rfl⟩ rfl (by decide) dX9_explore_134 (kV (fun s9 => ?_))
      refine x_aload_n C 0 dX9_explore_137 rfl rfl ?_
      refine x_iload_n C 1 dX9_explore_138 rfl rfl ?_
      refine x_callV C (cg_X9_measureRoutes _ _ n k0 p1 s9 hk0 hw) mt_X9_measureRoutes vr_X9_measureRoutes wd327 cls_X9 (aw hw (at_X9 hk0) (by omega) (by omega)) rfl ⟨rfl, rfl, Nat.le_of_ble_eq_true rfl, Nat.le_of_ble_eq_true rfl⟩ rfl (by decide) dX9_explore_139 (kV (fun s10 => ?_))
      exact x_vretQ C (hQ _) rfl dX9_explore_142
    · refine x_aload_n C 0 dX9_explore_44 rfl rfl ?_
      refine x_get (v := .ref (xqa (xXE X).2.2 (k0 + 4))) C 3 cls_X9 (aw hw (at_X9 hk0) (by omega) (by omega)) (by decide) wd281 rfl (xV_r (rwW hw (rt_X9_closed hk0 _) (by omega) (by omega)) rfl) dX9_explore_45 ?_
      refine x_iload_n C 3 dX9_explore_48 rfl rfl ?_
      refine x_zald C (aw hw (at_X9_closed hk0) (by omega) (by omega)) rfl dX9_explore_49 (fun _ => ?_)
      refine x_join (fun J => ∀ q13 : xS, WO X Qf w q13 127 [(0, .ref (xqa (xXE X).2.2 k0)), (1, iV p1), (2, iV p2), (3, iV t5.1)] [] (J q13)) ?_ ?_
      · intro q13
        refine x_inc C 3 (f := _) dX9_explore_127 rfl (by decide) (1) rfl (fun v14 => ?_)
        refine x_reL (L' := [(3, _), (0, _), (1, _), (2, _)]) rfl ?_
        refine x_goto C 36 dX9_explore_130 rfl ?_
        refine x_pick [1, 2, 3, 0] rfl ?_
        exact hr7 (v14, q13)
      · intro J11 hJ12
        refine x_if_ne C 127 rfl dX9_explore_50 rfl (fun c15 => x_on c15 ?_) (fun c15 => x_op c15 ?_)
        · refine x_pick [0, 1, 2, 3] rfl ?_
          exact hJ12 t5.2
        · refine x_iload_n C 3 dX9_explore_53 rfl rfl ?_
          refine x_iload_n C 2 dX9_explore_54 rfl rfl ?_
          refine x_icmp_eq C 127 rfl rfl dX9_explore_55 rfl (fun c16 => x_op c16 ?_) (fun c16 => x_on c16 ?_)
          · refine x_pick [0, 1, 2, 3] rfl ?_
            exact hJ12 t5.2
          · refine x_aload_n C 0 dX9_explore_58 rfl rfl ?_
            refine x_get (v := .ref (xqa (xXE X).2.2 (k0 + 3))) C 2 cls_X9 (aw hw (at_X9 hk0) (by omega) (by omega)) (by decide) wd279 rfl (xV_r (rwW hw (rt_X9_minutes hk0 _) (by omega) (by omega)) rfl) dX9_explore_59 ?_
            refine x_iload_n C 3 dX9_explore_62 rfl rfl ?_
            refine x_iald C (aw hw (at_X9_minutes hk0) (by omega) (by omega)) rfl dX9_explore_63 (fun _ => ?_)
            refine x_aload_n C 0 dX9_explore_64 rfl rfl ?_
            refine x_get (v := .ref (xqa (xXE X).2.2 (k0 + 5))) C 5 cls_X9 (aw hw (at_X9 hk0) (by omega) (by omega)) (by decide) wd289 rfl (xV_r (rwW hw (rt_X9_shortest hk0 _) (by omega) (by omega)) rfl) dX9_explore_65 ?_
            refine x_aload_n C 0 dX9_explore_68 rfl rfl ?_
            refine x_get (v := .ref (xqa (xXE X).2.2 (k0 + 1))) C 0 cls_X9 (aw hw (at_X9 hk0) (by omega) (by omega)) (by decide) wd275 rfl (xV_r (rwW hw (rt_X9_from hk0 _) (by omega) (by omega)) rfl) dX9_explore_69 ?_
            refine x_iload_n C 3 dX9_explore_72 rfl rfl ?_
            refine x_iald C (aw hw (at_X9_from hk0) (by omega) (by omega)) rfl dX9_explore_73 (fun _ => ?_)
            refine x_aald C (aw hw (at_X9_shortest hk0) (by omega) (by omega)) (by decide) rfl (fun h17 => rwW hw (rl_X9_shortest hk0 _ h17) (by omega) (by omega)) dX9_explore_74 (fun h17 => ?_)
            refine x_aload_n C 0 dX9_explore_75 rfl rfl ?_
            refine x_get (v := .ref (xqa (xXE X).2.2 (k0 + 2))) C 1 cls_X9 (aw hw (at_X9 hk0) (by omega) (by omega)) (by decide) wd277 rfl (xV_r (rwW hw (rt_X9_to hk0 _) (by omega) (by omega)) rfl) dX9_explore_76 ?_
            refine x_iload_n C 3 dX9_explore_79 rfl rfl ?_
            refine x_iald C (aw hw (at_X9_to hk0) (by omega) (by omega)) rfl dX9_explore_80 (fun _ => ?_)
            refine x_iald C (aw hw (el_X9_shortest hk0 h17) (by omega) (by omega)) rfl dX9_explore_81 (fun _ => ?_)
            refine x_mmin C wd320 wd321 wd58 wd322 (Nat.le_of_ble_eq_true rfl) (Nat.le_of_ble_eq_true rfl) dX9_explore_82 ?_
            refine x_letI (fun v18 => ?_)
            refine x_istore (L' := [(4, _), (0, _), (1, _), (2, _), (3, _)]) C dX9_explore_85 (by decide) rfl ?_
            refine x_aload_n C 1 dX9_explore_87 rfl rfl ?_
            refine x_get (v := .ref (xqa (xXE X).2.2 (k0 + 5))) C 5 cls_X9 (aw hw (at_X9 hk0) (by omega) (by omega)) (by decide) wd289 rfl (xV_r (rwW hw (rt_X9_shortest hk0 _) (by omega) (by omega)) rfl) dX9_explore_88 ?_
            refine x_aload_n C 1 dX9_explore_91 rfl rfl ?_
            refine x_get (v := .ref (xqa (xXE X).2.2 (k0 + 1))) C 0 cls_X9 (aw hw (at_X9 hk0) (by omega) (by omega)) (by decide) wd275 rfl (xV_r (rwW hw (rt_X9_from hk0 _) (by omega) (by omega)) rfl) dX9_explore_92 ?_
            refine x_iload_n C 4 dX9_explore_95 rfl rfl ?_
            refine x_iald C (aw hw (at_X9_from hk0) (by omega) (by omega)) rfl dX9_explore_96 (fun _ => ?_)
            refine x_aald C (aw hw (at_X9_shortest hk0) (by omega) (by omega)) (by decide) rfl (fun h19 => rwW hw (rl_X9_shortest hk0 _ h19) (by omega) (by omega)) dX9_explore_97 (fun h19 => ?_)
            refine x_aload_n C 1 dX9_explore_98 rfl rfl ?_
            refine x_get (v := .ref (xqa (xXE X).2.2 (k0 + 2))) C 1 cls_X9 (aw hw (at_X9 hk0) (by omega) (by omega)) (by decide) wd277 rfl (xV_r (rwW hw (rt_X9_to hk0 _) (by omega) (by omega)) rfl) dX9_explore_99 ?_
            refine x_iload_n C 4 dX9_explore_102 rfl rfl ?_
            refine x_iald C (aw hw (at_X9_to hk0) (by omega) (by omega)) rfl dX9_explore_103 (fun _ => ?_)
            refine x_iload C 0 dX9_explore_104 rfl ?_
            refine x_iast C (aw hw (el_X9_shortest hk0 h19) (by omega) (by omega)) rfl dX9_explore_106 (fun _ => ?_)
            refine x_letS (fun s20 => ?_)
            refine x_aload_n C 1 dX9_explore_107 rfl rfl ?_
            refine x_get (v := .ref (xqa (xXE X).2.2 (k0 + 5))) C 5 cls_X9 (aw hw (at_X9 hk0) (by omega) (by omega)) (by decide) wd289 rfl (xV_r (rwW hw (rt_X9_shortest hk0 _) (by omega) (by omega)) rfl) dX9_explore_108 ?_
            refine x_aload_n C 1 dX9_explore_111 rfl rfl ?_
            refine x_get (v := .ref (xqa (xXE X).2.2 (k0 + 2))) C 1 cls_X9 (aw hw (at_X9 hk0) (by omega) (by omega)) (by decide) wd277 rfl (xV_r (rwW hw (rt_X9_to hk0 _) (by omega) (by omega)) rfl) dX9_explore_112 ?_
            refine x_iload_n C 4 dX9_explore_115 rfl rfl ?_
            refine x_iald C (aw hw (at_X9_to hk0) (by omega) (by omega)) rfl dX9_explore_116 (fun _ => ?_)
            refine x_aald C (aw hw (at_X9_shortest hk0) (by omega) (by omega)) (by decide) rfl (fun h21 => rwW hw (rl_X9_shortest hk0 _ h21) (by omega) (by omega)) dX9_explore_117 (fun h21 => ?_)
            refine x_aload_n C 1 dX9_explore_118 rfl rfl ?_
            refine x_get (v := .ref (xqa (xXE X).2.2 (k0 + 1))) C 0 cls_X9 (aw hw (at_X9 hk0) (by omega) (by omega)) (by decide) wd275 rfl (xV_r (rwW hw (rt_X9_from hk0 _) (by omega) (by omega)) rfl) dX9_explore_119 ?_
            refine x_iload_n C 4 dX9_explore_122 rfl rfl ?_
            refine x_iald C (aw hw (at_X9_from hk0) (by omega) (by omega)) rfl dX9_explore_123 (fun _ => ?_)
            refine x_iload C 0 dX9_explore_124 rfl ?_
            refine x_iast C (aw hw (el_X9_shortest hk0 h21) (by omega) (by omega)) rfl dX9_explore_126 (fun _ => ?_)
            refine x_letS (fun s22 => ?_)
            refine x_pick [1, 2, 3, 4] rfl ?_
            exact hJ12 s22
  · refine x_aload_n C 0 dX9_explore_8 rfl rfl ?_
    refine x_get (v := .ref (xqa (xXE X).2.2 (k0 + 5))) C 5 cls_X9 (aw hw (at_X9 hk0) (by omega) (by omega)) (by decide) wd289 rfl (xV_r (rwW hw (rt_X9_shortest hk0 _) (by omega) (by omega)) rfl) dX9_explore_9 ?_
    refine x_iload_n C 3 dX9_explore_12 rfl rfl ?_
    refine x_aald C (aw hw (at_X9_shortest hk0) (by omega) (by omega)) (by decide) rfl (fun h23 => rwW hw (rl_X9_shortest hk0 _ h23) (by omega) (by omega)) dX9_explore_13 (fun h23 => ?_)
    refine x_ldc C (1000000) wd316 rfl dX9_explore_14 ?_
    refine x_callS C (cg_J7_fill_53178 _ _ n (k0 + 6 + (zI t1.1).toNat) 8 1000000 t1.2 (aw hw (el_X9_shortest hk0 h23) (by omega) (by omega))) mt_J7_fill_53178 st_J7_fill_53178 wd317 rfl ⟨rfl, rfl, Nat.le_of_ble_eq_true rfl, Nat.le_of_ble_eq_true rfl⟩ rfl (by decide) dX9_explore_16 (kV (fun s24 => ?_))
    refine x_aload_n C 0 dX9_explore_19 rfl rfl ?_
    refine x_get (v := .ref (xqa (xXE X).2.2 (k0 + 5))) C 5 cls_X9 (aw hw (at_X9 hk0) (by omega) (by omega)) (by decide) wd289 rfl (xV_r (rwW hw (rt_X9_shortest hk0 _) (by omega) (by omega)) rfl) dX9_explore_20 ?_
    refine x_iload_n C 3 dX9_explore_23 rfl rfl ?_
    refine x_aald C (aw hw (at_X9_shortest hk0) (by omega) (by omega)) (by decide) rfl (fun h25 => rwW hw (rl_X9_shortest hk0 _ h25) (by omega) (by omega)) dX9_explore_24 (fun h25 => ?_)
    refine x_iload_n C 3 dX9_explore_25 rfl rfl ?_
    refine x_iconst C (0) dX9_explore_26 rfl ?_
    refine x_iast C (aw hw (el_X9_shortest hk0 h25) (by omega) (by omega)) rfl dX9_explore_27 (fun _ => ?_)
    refine x_letS (fun s26 => ?_)
    refine x_inc C 3 (f := _) dX9_explore_28 rfl (by decide) (1) rfl (fun v27 => ?_)
    refine x_reL (L' := [(3, _), (0, _), (1, _), (2, _)]) rfl ?_
    refine x_goto C 2 dX9_explore_31 rfl ?_
    refine x_pick [1, 2, 3, 0] rfl ?_
    exact hr3 (v27, s26)
theorem cg_X9_explore {w : xW} (l : Launch) (E : xE) (n : Nat) (k0 : Nat) (p1 : Int) (p2 : Int) (σ : xS) (hk0 : isRd k0) (hw : InW w k0 (k0 + 15))  : xMet l E yX9_explore cX9_explore 5 none { frames := 2, cells := 0, slots := 0, locals := 48 } [.ref (xqa E.2.2 k0), iV p1, iV p2] w w σ (xrV (m_X9_explore n k0 p1 p2 σ)) := by
  refine xMet.of0 (by decide) (Nat.le_of_ble_eq_true rfl) rfl rfl (fun X hE C => ?_)
  subst hE
  exact xMap (fun q => (none, q)) (wg_X9_explore C (fun _ => rfl) hk0 hw)
set_option maxHeartbeats 4000000 in
set_option maxRecDepth 100000 in
theorem wg_X1_clear {w : xW} {X : xX} {Qf : xS → State → Prop} {k0 : Nat} {σ : xS} (C : xCx X cX1_clear "BakeryNight$Bakery" none { frames := 0, cells := 0, slots := 0, locals := 0 } 1) (hQ : ∀ τ, Qf τ = xQf X w (none, τ)) (hk0 : isBk k0) (hw : InW w k0 (k0 + 54)) : WO X Qf w σ 0 [(0, .ref (xqa (xXE X).2.2 k0))] [] (m_X1_clear k0 σ) := by
  unfold m_X1_clear
  refine x_aload_n C 0 dX1_clear_0 rfl rfl ?_
  refine x_bipush C (24) dX1_clear_1 rfl ?_
  refine x_put C 0 24 cls_X1 (aw hw (at_X1 hk0) (by omega) (by omega)) (by decide) wd336 rfl rfl rfl rfl (xV_pI rfl) dX1_clear_3 ?_
  refine x_letS (fun s1 => ?_)
  refine x_aload_n C 0 dX1_clear_6 rfl rfl ?_
  refine x_bipush C (30) dX1_clear_7 rfl ?_
  refine x_put C 1 30 cls_X1 (aw hw (at_X1 hk0) (by omega) (by omega)) (by decide) wd340 rfl rfl rfl rfl (xV_pI rfl) dX1_clear_9 ?_
  refine x_letS (fun s2 => ?_)
  refine x_aload_n C 0 dX1_clear_12 rfl rfl ?_
  refine x_iconst C (1) dX1_clear_13 rfl ?_
  refine x_put C 2 1 cls_X1 (aw hw (at_X1 hk0) (by omega) (by omega)) (by decide) wd343 rfl rfl rfl rfl (xV_pI rfl) dX1_clear_14 ?_
  refine x_letS (fun s3 => ?_)
  refine x_aload_n C 0 dX1_clear_17 rfl rfl ?_
  refine x_iconst C (1) dX1_clear_18 rfl ?_
  refine x_put C 3 1 cls_X1 (aw hw (at_X1 hk0) (by omega) (by omega)) (by decide) wd346 rfl rfl rfl rfl (xV_pI rfl) dX1_clear_19 ?_
  refine x_letS (fun s4 => ?_)
  refine x_aload_n C 0 dX1_clear_22 rfl rfl ?_
  refine x_iconst C (0) dX1_clear_23 rfl ?_
  refine x_put C 5 0 cls_X1 (aw hw (at_X1 hk0) (by omega) (by omega)) (by decide) wd352 rfl rfl rfl rfl (xV_pI rfl) dX1_clear_24 ?_
  refine x_letS (fun s5 => ?_)
  refine x_aload_n C 0 dX1_clear_27 rfl rfl ?_
  refine x_iconst C (0) dX1_clear_28 rfl ?_
  refine x_put C 7 0 cls_X1 (aw hw (at_X1 hk0) (by omega) (by omega)) (by decide) wd361 rfl rfl rfl rfl (xV_pI rfl) dX1_clear_29 ?_
  refine x_letS (fun s6 => ?_)
  refine x_aload_n C 0 dX1_clear_32 rfl rfl ?_
  refine x_iconst C (0) dX1_clear_33 rfl ?_
  refine x_put C 8 0 cls_X1 (aw hw (at_X1 hk0) (by omega) (by omega)) (by decide) wd364 rfl rfl rfl rfl (xV_pI rfl) dX1_clear_34 ?_
  refine x_letS (fun s7 => ?_)
  refine x_aload_n C 0 dX1_clear_37 rfl rfl ?_
  refine x_get (v := .ref (xqa (xXE X).2.2 (k0 + 39))) C 9 cls_X1 (aw hw (at_X1 hk0) (by omega) (by omega)) (by decide) wd367 rfl (xV_r (rwW hw (rt_X1_roads hk0 _) (by omega) (by omega)) rfl) dX1_clear_38 ?_
  refine x_iconst C (0) dX1_clear_41 rfl ?_
  refine x_put C 4 0 cls_X9 (aw hw (at_X9 (rd_bk hk0)) (by omega) (by omega)) (by decide) wd285 rfl rfl rfl rfl (xV_pI rfl) dX1_clear_42 ?_
  refine x_letS (fun s8 => ?_)
  refine x_aload_n C 0 dX1_clear_45 rfl rfl ?_
  refine x_iconst C (0) dX1_clear_46 rfl ?_
  refine x_put C 11 0 cls_X1 (aw hw (at_X1 hk0) (by omega) (by omega)) (by decide) wd374 rfl rfl rfl rfl (xV_pI rfl) dX1_clear_47 ?_
  refine x_letS (fun s9 => ?_)
  refine x_aload_n C 0 dX1_clear_50 rfl rfl ?_
  refine x_iconst C (0) dX1_clear_51 rfl ?_
  refine x_put C 13 0 cls_X1 (aw hw (at_X1 hk0) (by omega) (by omega)) (by decide) wd384 rfl rfl rfl rfl (xV_pI rfl) dX1_clear_52 ?_
  refine x_letS (fun s10 => ?_)
  exact x_vretQ C (hQ _) rfl dX1_clear_55
theorem cg_X1_clear {w : xW} (l : Launch) (E : xE) (k0 : Nat) (σ : xS) (hk0 : isBk k0) (hw : InW w k0 (k0 + 54))  : xMet l E yX1_clear cX1_clear 1 none { frames := 0, cells := 0, slots := 0, locals := 0 } [.ref (xqa E.2.2 k0)] w w σ (xrV (m_X1_clear k0 σ)) := by
  refine xMet.of0 (by decide) (Nat.le_of_ble_eq_true rfl) rfl rfl (fun X hE C => ?_)
  subst hE
  exact xMap (fun q => (none, q)) (wg_X1_clear C (fun _ => rfl) hk0 hw)
