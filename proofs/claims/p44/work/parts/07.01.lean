def m_X10_keyword (n : Nat) (σ : xS) : Option Int :=
  if (zI (σ 3 2)) = 1 then xlet ((σ 3 4) - (σ 3 3)) fun v2 => loopF (fun rec4 (t3 : Int) => if 24 ≤ (zI t3) then some (-1) else xck (zI t3) 24 <| loopF (fun rec9 (t8 : Int) => xj (fun (q14 : Unit) => xj (fun (q17 : Unit) => xlet (t3 + 1) fun v18 => rec4 v18) fun J15 => if (zI t8) = (zI v2) then if (zI t8) = (zI (m_J0_length_8abf5 ((zI t3).toNat))) then some (zI t3) else J15 () else J15 ()) fun J12 => if (zI v2) ≤ (zI t8) then J12 () else if (zI (m_J0_length_8abf5 ((zI t3).toNat))) ≤ (zI t8) then J12 () else xnz (σ 3 0) <| xck (zI ((σ 3 3) + t8)) 1600 <| (m_J0_charAt_5068e ((zI t3).toNat) t8).bind fun v24 => if (zI (σ 1 (zI ((σ 3 3) + t8)).toNat)) = (zI v24) then xlet (t8 + 1) fun v26 => rec9 v26 else J12 ()) n 0) n 0 else some (-1)
set_option maxHeartbeats 4000000 in
set_option maxRecDepth 100000 in
theorem wk_X10_keyword {X : xX} {Qf : Int → State → Prop} {n : Nat} {σ : xS} (C : xCx X cX10_keyword "BakeryNight$Scanner" (some (.object "BakeryNight$Word")) { frames := 5, cells := 0, slots := 0, locals := 106 } 7) (hQ : ∀ v, Qf v = xQf X WW (some (wV (xXE X) v), σ))  : WO X Qf WW σ 0 [(0, .ref (xqa (xXE X).2.2 3))] [] (m_X10_keyword n σ) := by
  unfold m_X10_keyword
  refine x_aload_n C 0 dX10_keyword_0 rfl rfl ?_
  refine x_get (v := iV (σ 3 2)) C 2 cls_X10 at_X10 (by decide) wd103 rfl rfl dX10_keyword_1 ?_
  refine x_iconst C (1) dX10_keyword_4 rfl ?_
  refine x_icmp_eq C 10 rfl (zIl _ rfl) dX10_keyword_5 rfl (fun c1 => x_op c1 ?_) (fun c1 => x_on c1 ?_)
  · refine x_aload_n C 0 dX10_keyword_10 rfl rfl ?_
    refine x_get (v := iV (σ 3 4)) C 4 cls_X10 at_X10 (by decide) wd106 rfl rfl dX10_keyword_11 ?_
    refine x_aload_n C 0 dX10_keyword_14 rfl rfl ?_
    refine x_get (v := iV (σ 3 3)) C 3 cls_X10 at_X10 (by decide) wd104 rfl rfl dX10_keyword_15 ?_
    refine x_isub C dX10_keyword_18 ?_
    refine x_letI (fun v2 => ?_)
    refine x_istore_n (L' := [(1, _), (0, _)]) C dX10_keyword_19 rfl (by decide) rfl ?_
    refine x_gsWORDS C wd958 dX10_keyword_20 ?_
    refine x_astore_n (L' := [(2, _), (1, _), (0, _)]) C dX10_keyword_23 rfl (by decide) rfl ?_
    refine x_aload_n C 0 dX10_keyword_24 rfl rfl ?_
    refine x_alenWS C dX10_keyword_25 ?_
    refine x_istore_n (L' := [(3, _), (2, _), (1, _), (0, _)]) C dX10_keyword_26 rfl (by decide) rfl ?_
    refine x_iconst C (0) dX10_keyword_27 rfl ?_
    refine x_istore (L' := [(4, _), (3, _), (2, _), (1, _), (0, _)]) C dX10_keyword_28 (by decide) rfl ?_
    refine x_pick [4, 3, 2, 1, 0] rfl ?_
    refine x_loop (fun t3 : Int => σ) (fun t3 : Int => [(0, .ref (xqa (xXE X).2.2 3)), (1, iV v2), (2, cR X 3 0), (3, iV 24), (4, iV t3)]) (fun rec4 hr5 t3 => ?_) n 0
    refine x_iload C 4 dX10_keyword_30 rfl ?_
    refine x_iload_n C 3 dX10_keyword_32 rfl rfl ?_
    refine x_icmp_ge C 123 rfl (zIl _ rfl) dX10_keyword_33 rfl (fun c6 => x_op c6 ?_) (fun c6 => x_on c6 ?_)
    · refine x_null C dX10_keyword_123 ?_
      exact x_nulretQ C (hQ _) rfl dX10_keyword_124
    · refine x_aload_n C 2 dX10_keyword_36 rfl rfl ?_
      refine x_iload C 4 dX10_keyword_37 rfl ?_
      refine x_aldWS C rfl dX10_keyword_39 (fun h7 => ?_)
      refine x_astore (L' := [(5, _), (0, _), (1, _), (2, _), (3, _), (4, _)]) C dX10_keyword_40 (by decide) rfl ?_
      refine x_iconst C (0) dX10_keyword_42 rfl ?_
      refine x_istore (L' := [(6, _), (5, _), (0, _), (1, _), (2, _), (3, _), (4, _)]) C dX10_keyword_43 (by decide) rfl ?_
      refine x_pick [2, 3, 4, 5, 6, 1, 0] rfl ?_
      refine x_loop (fun t8 : Int => σ) (fun t8 : Int => [(0, .ref (xqa (xXE X).2.2 3)), (1, iV v2), (2, cR X 3 0), (3, iV 24), (4, iV t3), (5, .ref ((xXE X).2.1.2.2 0 (zI t3).toNat)), (6, iV t8)]) (fun rec9 hr10 t8 => ?_) n 0
      refine x_iload C 6 dX10_keyword_45 rfl ?_
      refine x_iload_n C 1 dX10_keyword_47 rfl rfl ?_
      refine x_join (fun J => ∀ q14 : Unit, WO X Qf WW σ 95 [(0, .ref (xqa (xXE X).2.2 3)), (1, iV v2), (2, cR X 3 0), (3, iV 24), (4, iV t3), (5, .ref ((xXE X).2.1.2.2 0 (zI t3).toNat)), (6, iV t8)] [] (J q14)) ?_ ?_
      · intro q14
        refine x_iload C 6 dX10_keyword_95 rfl ?_
        refine x_iload_n C 1 dX10_keyword_97 rfl rfl ?_
        refine x_join (fun J => ∀ q17 : Unit, WO X Qf WW σ 117 [(0, .ref (xqa (xXE X).2.2 3)), (1, iV v2), (2, cR X 3 0), (3, iV 24), (4, iV t3)] [] (J q17)) ?_ ?_
        · intro q17
          refine x_inc C 4 (f := _) dX10_keyword_117 rfl (by decide) (1) rfl (fun v18 => ?_)
          refine x_reL (L' := [(4, _), (0, _), (1, _), (2, _), (3, _)]) rfl ?_
          refine x_goto C 30 dX10_keyword_120 rfl ?_
          refine x_pick [1, 2, 3, 4, 0] rfl ?_
          exact hr5 v18
        · intro J15 hJ16
          refine x_icmp_ne C 117 rfl rfl dX10_keyword_98 rfl (fun c19 => x_on c19 ?_) (fun c19 => x_op c19 ?_)
          · refine x_pick [0, 1, 2, 3, 4] rfl ?_
            exact hJ16 ()
          · refine x_iload C 6 dX10_keyword_101 rfl ?_
            refine x_aload C 5 dX10_keyword_103 rfl ?_
            refine x_wtext C h7 wd1586 dX10_keyword_105 ?_
            refine x_callVs C (ct_J0_length_8abf5 _ _ ((zI t3).toNat) (w_ix h7) σ) mt_J0_length_8abf5 vr_J0_length_8abf5 wd960 (w_ix h7) rfl ⟨rfl, rfl, Nat.le_of_ble_eq_true rfl, Nat.le_of_ble_eq_true rfl⟩ rfl (Nat.le_of_ble_eq_true rfl) dX10_keyword_108 (kP ?_)
            refine x_icmp_ne C 117 rfl rfl dX10_keyword_111 rfl (fun c20 => x_on c20 ?_) (fun c20 => x_op c20 ?_)
            · refine x_pick [0, 1, 2, 3, 4] rfl ?_
              exact hJ16 ()
            · refine x_aload C 5 dX10_keyword_114 rfl ?_
              exact x_wretQ C (hQ _) rfl h7 dX10_keyword_116
      · intro J12 hJ13
        refine x_icmp_ge C 95 rfl rfl dX10_keyword_48 rfl (fun c21 => x_op c21 ?_) (fun c21 => x_on c21 ?_)
        · refine x_pick [0, 1, 2, 3, 4, 5, 6] rfl ?_
          exact hJ13 ()
        · refine x_iload C 6 dX10_keyword_51 rfl ?_
          refine x_aload C 5 dX10_keyword_53 rfl ?_
          refine x_wtext C h7 wd1586 dX10_keyword_55 ?_
          refine x_callVs C (ct_J0_length_8abf5 _ _ ((zI t3).toNat) (w_ix h7) σ) mt_J0_length_8abf5 vr_J0_length_8abf5 wd960 (w_ix h7) rfl ⟨rfl, rfl, Nat.le_of_ble_eq_true rfl, Nat.le_of_ble_eq_true rfl⟩ rfl (Nat.le_of_ble_eq_true rfl) dX10_keyword_58 (kP ?_)
          refine x_icmp_ge C 95 rfl rfl dX10_keyword_61 rfl (fun c22 => x_op c22 ?_) (fun c22 => x_on c22 ?_)
          · refine x_pick [0, 1, 2, 3, 4, 5, 6] rfl ?_
            exact hJ13 ()
          · refine x_aload_n C 0 dX10_keyword_64 rfl rfl ?_
            refine x_gd (y := σ 3 0) (fun hg23 => ?_)
            refine x_get (v := .ref (xqa (xXE X).2.2 1)) C 0 cls_X10 at_X10 (by decide) wd100 rfl (xV_r (rt_X10_text hg23) rfl) dX10_keyword_65 ?_
            refine x_aload_n C 0 dX10_keyword_68 rfl rfl ?_
            refine x_get (v := iV (σ 3 3)) C 3 cls_X10 at_X10 (by decide) wd104 rfl rfl dX10_keyword_69 ?_
            refine x_iload C 6 dX10_keyword_72 rfl ?_
            refine x_iadd C dX10_keyword_74 ?_
            refine x_bald C at_X12_buffer rfl dX10_keyword_75 (fun _ => ?_)
            refine x_aload C 5 dX10_keyword_76 rfl ?_
            refine x_wtext C h7 wd1586 dX10_keyword_78 ?_
            refine x_iload C 6 dX10_keyword_81 rfl ?_
            refine x_callVs C (ct_J0_charAt_5068e _ _ ((zI t3).toNat) t8 (w_ix h7) σ) mt_J0_charAt_5068e vr_J0_charAt_5068e wd961 (w_ix h7) rfl ⟨rfl, rfl, Nat.le_of_ble_eq_true rfl, Nat.le_of_ble_eq_true rfl⟩ rfl (Nat.le_of_ble_eq_true rfl) dX10_keyword_83 (kI (fun v24 => ?_))
            refine x_icmp_ne C 95 rfl rfl dX10_keyword_86 rfl (fun c25 => x_on c25 ?_) (fun c25 => x_op c25 ?_)
            · refine x_pick [0, 1, 2, 3, 4, 5, 6] rfl ?_
              exact hJ13 ()
            · refine x_inc C 6 (f := _) dX10_keyword_89 rfl (by decide) (1) rfl (fun v26 => ?_)
              refine x_reL (L' := [(6, _), (0, _), (1, _), (2, _), (3, _), (4, _), (5, _)]) rfl ?_
              refine x_goto C 45 dX10_keyword_92 rfl ?_
              refine x_pick [1, 2, 3, 4, 5, 6, 0] rfl ?_
              exact hr10 v26
  · refine x_null C dX10_keyword_8 ?_
    exact x_nulretQ C (hQ _) rfl dX10_keyword_9
theorem ct_X10_keyword (l : Launch) (E : xE) (n : Nat) (σ : xS)   : xMet l E yX10_keyword cX10_keyword 7 (some (.object "BakeryNight$Word")) { frames := 5, cells := 0, slots := 0, locals := 106 } [.ref (xqa E.2.2 3)] WW WW σ (xrW E (m_X10_keyword n σ) σ) := by
  refine xMet.of0 (by decide) (Nat.le_of_ble_eq_true rfl) rfl rfl (fun X hE C => ?_)
  subst hE
  exact xMap (fun v => (some (wV (xXE X) v), σ)) (wk_X10_keyword C (fun _ => rfl) )
theorem mt_X10_keyword : xMth yX10_keyword cX10_keyword 7 (some (.object "BakeryNight$Word")) 0 := ⟨wd957, wd51, ⟨by decide, by decide, rfl⟩⟩
theorem vr_X10_keyword : xVir yX10_keyword := ⟨wd955, wd956⟩
def m_X10_isName (n : Nat) (σ : xS) : Option Int :=
  xj (fun (q7 : Int) => xbo q7 (some q7)) fun J5 => xj (fun (q10 : Unit) => J5 0) fun J8 => if (zI (σ 3 2)) = 1 then if 8 < (zI ((σ 3 4) - (σ 3 3))) then J8 () else (m_X10_keyword n σ).bind fun v13 => xwd v13 <| if v13 = -1 then J5 1 else J8 () else J8 ()
set_option maxHeartbeats 4000000 in
set_option maxRecDepth 100000 in
theorem wk_X10_isName {X : xX} {Qf : Int → State → Prop} {n : Nat} {σ : xS} (C : xCx X cX10_isName "BakeryNight$Scanner" (some .boolean) { frames := 6, cells := 0, slots := 0, locals := 132 } 1) (hQ : ∀ v, Qf v = xQf X WW (some (iV v), σ))  : WO X Qf WW σ 0 [(0, .ref (xqa (xXE X).2.2 3))] [] (m_X10_isName n σ) := by
  unfold m_X10_isName
  refine x_aload_n C 0 dX10_isName_0 rfl rfl ?_
  refine x_get (v := iV (σ 3 2)) C 2 cls_X10 at_X10 (by decide) wd103 rfl rfl dX10_isName_1 ?_
  refine x_iconst C (1) dX10_isName_4 rfl ?_
  refine x_join (fun J => ∀ q7 : Int, WO X Qf WW σ 34 [] [iV q7] (J q7)) ?_ ?_
  · intro q7
    exact x_bo (fun hb => x_zretQ C (hQ _) rfl hb dX10_isName_34)
  · intro J5 hJ6
    refine x_join (fun J => ∀ q10 : Unit, WO X Qf WW σ 33 [] [] (J q10)) ?_ ?_
    · intro q10
      refine x_iconst C (0) dX10_isName_33 rfl ?_
      refine x_pick [] rfl ?_
      exact hJ6 0
    · intro J8 hJ9
      refine x_icmp_ne C 33 rfl (zIl _ rfl) dX10_isName_5 rfl (fun c11 => x_on c11 ?_) (fun c11 => x_op c11 ?_)
      · refine x_pick [] rfl ?_
        exact hJ9 ()
      · refine x_aload_n C 0 dX10_isName_8 rfl rfl ?_
        refine x_get (v := iV (σ 3 4)) C 4 cls_X10 at_X10 (by decide) wd106 rfl rfl dX10_isName_9 ?_
        refine x_aload_n C 0 dX10_isName_12 rfl rfl ?_
        refine x_get (v := iV (σ 3 3)) C 3 cls_X10 at_X10 (by decide) wd104 rfl rfl dX10_isName_13 ?_
        refine x_isub C dX10_isName_16 ?_
        refine x_bipush C (8) dX10_isName_17 rfl ?_
        refine x_icmp_gt C 33 rfl (zIl _ rfl) dX10_isName_19 rfl (fun c12 => x_op c12 ?_) (fun c12 => x_on c12 ?_)
        · refine x_pick [] rfl ?_
          exact hJ9 ()
        · refine x_aload_n C 0 dX10_isName_22 rfl rfl ?_
          refine x_callV C (ct_X10_keyword _ _ n σ) mt_X10_keyword vr_X10_keyword wd1011 cls_X10 at_X10 rfl ⟨rfl, rfl, Nat.le_of_ble_eq_true rfl, Nat.le_of_ble_eq_true rfl⟩ rfl (by decide) dX10_isName_23 (kW (fun v13 => ?_))
          refine x_wd (fun hw14 => ?_)
          refine x_ifnonnullW C hw14 33 dX10_isName_26 rfl (fun c15 => x_on c15 ?_) (fun c15 => x_op c15 ?_)
          · refine x_pick [] rfl ?_
            exact hJ9 ()
          · refine x_iconst C (1) dX10_isName_29 rfl ?_
            refine x_goto C 34 dX10_isName_30 rfl ?_
            refine x_pick [] rfl ?_
            exact hJ6 1
theorem ct_X10_isName (l : Launch) (E : xE) (n : Nat) (σ : xS)   : xMet l E yX10_isName cX10_isName 1 (some .boolean) { frames := 6, cells := 0, slots := 0, locals := 132 } [.ref (xqa E.2.2 3)] WW WW σ (xrI (m_X10_isName n σ) σ) := by
  refine xMet.of0 (by decide) (Nat.le_of_ble_eq_true rfl) rfl rfl (fun X hE C => ?_)
  subst hE
  exact xMap (fun v => (some (iV v), σ)) (wk_X10_isName C (fun _ => rfl) )
theorem mt_X10_isName : xMth yX10_isName cX10_isName 1 (some .boolean) 0 := ⟨wd1010, wd51, ⟨by decide, by decide, rfl⟩⟩
theorem vr_X10_isName : xVir yX10_isName := ⟨wd1008, wd1009⟩
def m_X7_readNewName (n : Nat) (k1 z1 : Nat) (p2 : Int) (σ : xS) : Option xS :=
  (m_X10_isName n σ).bind fun v1 => xj (fun (q5 : xS) => xj (fun (q9 : xS) => some q9) fun J7 => if (m_X7_failed q5) = 0 then (m_X10_letters n q5).bind fun v11 => xck (zI p2) z1 <| xlet (xput q5 k1 (zI p2).toNat v11) fun s12 => (m_X10_next n s12).bind fun s13 => J7 s13 else J7 q5) fun J3 => if (zI v1) = 0 then (m_X7_fail 1 σ).bind fun s18 => J3 s18 else (m_X7_indexOfName n k1 z1 p2 σ).bind fun v15 => if (zI v15) = (-1) then J3 σ else (m_X7_fail 3 σ).bind fun s17 => J3 s17
set_option maxHeartbeats 4000000 in
set_option maxRecDepth 100000 in
theorem wk_X7_readNewName {X : xX} {Qf : xS → State → Prop} {n : Nat} {k1 z1 : Nat} {p2 : Int} {σ : xS} (C : xCx X cX7_readNewName "BakeryNight$Parser" none { frames := 7, cells := 0, slots := 0, locals := 152 } 3) (hQ : ∀ τ, Qf τ = xQf X WW (none, τ)) (hk1 : xAt WW k1 1 z1) : WO X Qf WW σ 0 [(0, .ref (xqa (xXE X).2.2 2)), (1, .ref (xqa (xXE X).2.2 k1)), (2, iV p2)] [] (m_X7_readNewName n k1 z1 p2 σ) := by
  unfold m_X7_readNewName
  refine x_aload_n C 0 dX7_readNewName_0 rfl rfl ?_
  refine x_get (v := .ref (xqa (xXE X).2.2 3)) C 0 cls_X7 at_X7 (by decide) wd119 rfl (xV_r (rt_X7_scanner  _) rfl) dX7_readNewName_1 ?_
  refine x_callV C (ct_X10_isName _ _ n σ) mt_X10_isName vr_X10_isName wd1007 cls_X10 at_X10 rfl ⟨rfl, rfl, Nat.le_of_ble_eq_true rfl, Nat.le_of_ble_eq_true rfl⟩ rfl (by decide) dX7_readNewName_4 (kI (fun v1 => ?_))
  refine x_join (fun J => ∀ q5 : xS, WO X Qf WW q5 33 [(0, .ref (xqa (xXE X).2.2 2)), (1, .ref (xqa (xXE X).2.2 k1)), (2, iV p2)] [] (J q5)) ?_ ?_
  · intro q5
    refine x_aload_n C 0 dX7_readNewName_33 rfl rfl ?_
    refine x_callV C (ct_X7_failed _ _ q5) mt_X7_failed vr_X7_failed wd991 cls_X7 at_X7 rfl ⟨rfl, rfl, Nat.le_of_ble_eq_true rfl, Nat.le_of_ble_eq_true rfl⟩ rfl (by decide) dX7_readNewName_34 (kP ?_)
    refine x_join (fun J => ∀ q9 : xS, WO X Qf WW q9 57 [] [] (J q9)) ?_ ?_
    · intro q9
      exact x_vretQ C (hQ _) rfl dX7_readNewName_57
    · intro J7 hJ8
      refine x_if_ne C 57 (zI_bo (bo_X7_failed _)) dX7_readNewName_37 rfl (fun c10 => x_on c10 ?_) (fun c10 => x_op c10 ?_)
      · refine x_pick [] rfl ?_
        exact hJ8 q5
      · refine x_aload_n C 1 dX7_readNewName_40 rfl rfl ?_
        refine x_iload_n C 2 dX7_readNewName_41 rfl rfl ?_
        refine x_aload_n C 0 dX7_readNewName_42 rfl rfl ?_
        refine x_get (v := .ref (xqa (xXE X).2.2 3)) C 0 cls_X7 at_X7 (by decide) wd119 rfl (xV_r (rt_X7_scanner  _) rfl) dX7_readNewName_43 ?_
        refine x_callV C (ct_X10_letters _ _ n q5) mt_X10_letters vr_X10_letters wd1016 cls_X10 at_X10 rfl ⟨rfl, rfl, Nat.le_of_ble_eq_true rfl, Nat.le_of_ble_eq_true rfl⟩ rfl (Nat.le_of_ble_eq_true rfl) dX7_readNewName_46 (kL (fun v11 => ?_))
        refine x_last C hk1 rfl dX7_readNewName_49 (fun _ => ?_)
        refine x_letS (fun s12 => ?_)
        refine x_aload_n C 0 dX7_readNewName_50 rfl rfl ?_
        refine x_get (v := .ref (xqa (xXE X).2.2 3)) C 0 cls_X7 at_X7 (by decide) wd119 rfl (xV_r (rt_X7_scanner  _) rfl) dX7_readNewName_51 ?_
        refine x_callV C (ct_X10_next _ _ n s12) mt_X10_next vr_X10_next wd978 cls_X10 at_X10 rfl ⟨rfl, rfl, Nat.le_of_ble_eq_true rfl, Nat.le_of_ble_eq_true rfl⟩ rfl (by decide) dX7_readNewName_54 (kV (fun s13 => ?_))
        refine x_pick [] rfl ?_
        exact hJ8 s13
  · intro J3 hJ4
    refine x_if_ne C 18 rfl dX7_readNewName_7 rfl (fun c14 => x_on c14 ?_) (fun c14 => x_op c14 ?_)
    · refine x_aload_n C 0 dX7_readNewName_18 rfl rfl ?_
      refine x_aload_n C 1 dX7_readNewName_19 rfl rfl ?_
      refine x_iload_n C 2 dX7_readNewName_20 rfl rfl ?_
      refine x_callV C (ct_X7_indexOfName _ _ n k1 z1 p2 σ hk1) mt_X7_indexOfName vr_X7_indexOfName wd1012 cls_X7 at_X7 rfl ⟨rfl, rfl, Nat.le_of_ble_eq_true rfl, Nat.le_of_ble_eq_true rfl⟩ rfl (by decide) dX7_readNewName_21 (kI (fun v15 => ?_))
      refine x_iconst C (-1) dX7_readNewName_24 rfl ?_
      refine x_icmp_eq C 33 rfl (zIl _ rfl) dX7_readNewName_25 rfl (fun c16 => x_op c16 ?_) (fun c16 => x_on c16 ?_)
      · refine x_pick [0, 1, 2] rfl ?_
        exact hJ4 σ
      · refine x_aload_n C 0 dX7_readNewName_28 rfl rfl ?_
        refine x_iconst C (3) dX7_readNewName_29 rfl ?_
        refine x_callV C (ct_X7_fail _ _ 3 σ) mt_X7_fail vr_X7_fail wd962 cls_X7 at_X7 rfl ⟨rfl, rfl, Nat.le_of_ble_eq_true rfl, Nat.le_of_ble_eq_true rfl⟩ rfl (by decide) dX7_readNewName_30 (kV (fun s17 => ?_))
        refine x_pick [0, 1, 2] rfl ?_
        exact hJ4 s17
    · refine x_aload_n C 0 dX7_readNewName_10 rfl rfl ?_
      refine x_iconst C (1) dX7_readNewName_11 rfl ?_
      refine x_callV C (ct_X7_fail _ _ 1 σ) mt_X7_fail vr_X7_fail wd962 cls_X7 at_X7 rfl ⟨rfl, rfl, Nat.le_of_ble_eq_true rfl, Nat.le_of_ble_eq_true rfl⟩ rfl (by decide) dX7_readNewName_12 (kV (fun s18 => ?_))
      refine x_goto C 33 dX7_readNewName_15 rfl ?_
      refine x_pick [0, 1, 2] rfl ?_
      exact hJ4 s18
theorem ct_X7_readNewName (l : Launch) (E : xE) (n : Nat) (k1 z1 : Nat) (p2 : Int) (σ : xS) (hk1 : xAt WW k1 1 z1)  : xMet l E yX7_readNewName cX7_readNewName 3 none { frames := 7, cells := 0, slots := 0, locals := 152 } [.ref (xqa E.2.2 2), .ref (xqa E.2.2 k1), iV p2] WW WW σ (xrV (m_X7_readNewName n k1 z1 p2 σ)) := by
  refine xMet.of0 (by decide) (Nat.le_of_ble_eq_true rfl) rfl rfl (fun X hE C => ?_)
  subst hE
  exact xMap (fun q => (none, q)) (wk_X7_readNewName C (fun _ => rfl) hk1)
theorem mt_X7_readNewName : xMth yX7_readNewName cX7_readNewName 3 none 2 := ⟨wd1006, wd50, ⟨by decide, by decide, rfl⟩⟩
theorem vr_X7_readNewName : xVir yX7_readNewName := ⟨wd1005, wd34⟩
