def m_X13_endsAll (n : Nat) (k1 : Nat) (σ : xS) : Option xS :=
  loopF (fun rec2 (t1 : Int × xS) => if (zI (t1.2 184 19)) ≤ (zI t1.1) then loopF (fun rec6 (t5 : Int × xS) => xck 5 289 <| if (zI (t5.2 k1 (5 : Int).toNat)) ≤ (zI t5.1) then some t5.2 else xck (zI t5.1) 4 <| xj (fun (q11 : xS) => xlet (t5.1 + 1) fun v12 => rec6 (v12, q11)) fun J9 => if (zI (t5.2 202 (zI t5.1).toNat)) = (-1) then J9 t5.2 else xck (zI t5.1) 4 <| if (zI (t5.2 203 (zI t5.1).toNat)) = (zI (t5.2 184 34)) then xck (zI t5.1) 4 <| xck (zI t5.1) 4 <| xlet (xput t5.2 201 (zI t5.1).toNat (t5.2 202 (zI t5.1).toNat)) fun s15 => xck (zI t5.1) 4 <| xlet (xput s15 202 (zI t5.1).toNat (-1)) fun s16 => J9 s16 else J9 t5.2) n (0, t1.2) else (m_X13_goesOn k1 t1.1 t1.2).bind fun s17 => xlet (t1.1 + 1) fun v18 => rec2 (v18, s17)) n (0, σ)
set_option maxHeartbeats 4000000 in
set_option maxRecDepth 100000 in
theorem wk_X13_endsAll {X : xX} {Qf : xS → State → Prop} {n : Nat} {k1 : Nat} {σ : xS} (C : xCx X cX13_endsAll "BakeryNightModel" none { frames := 3, cells := 0, slots := 0, locals := 67 } 3) (hQ : ∀ τ, Qf τ = xQf X WW (none, τ)) (hk1 : xAt WW k1 0 289) : WO X Qf WW σ 0 [(0, .ref (xqa (xXE X).2.2 184)), (1, .ref (xqa (xXE X).2.2 k1))] [] (m_X13_endsAll n k1 σ) := by
  unfold m_X13_endsAll
  refine x_iconst C (0) dX13_endsAll_0 rfl ?_
  refine x_istore_n (L' := [(2, _), (0, _), (1, _)]) C dX13_endsAll_1 rfl (by decide) rfl ?_
  refine x_pick [1, 2, 0] rfl ?_
  refine x_loop (fun t1 : Int × xS => t1.2) (fun t1 : Int × xS => [(0, .ref (xqa (xXE X).2.2 184)), (1, .ref (xqa (xXE X).2.2 k1)), (2, iV t1.1)]) (fun rec2 hr3 t1 => ?_) n (0, σ)
  refine x_iload_n C 2 dX13_endsAll_2 rfl rfl ?_
  refine x_aload_n C 0 dX13_endsAll_3 rfl rfl ?_
  refine x_get (v := iV (t1.2 184 19)) C 19 cls_X13 at_X13 (by decide) wd1521 rfl rfl dX13_endsAll_4 ?_
  refine x_icmp_ge C 22 rfl rfl dX13_endsAll_7 rfl (fun c4 => x_op c4 ?_) (fun c4 => x_on c4 ?_)
  · refine x_iconst C (0) dX13_endsAll_22 rfl ?_
    refine x_istore_n (L' := [(2, _), (0, _), (1, _)]) C dX13_endsAll_23 rfl (by decide) rfl ?_
    refine x_pick [1, 2, 0] rfl ?_
    refine x_loop (fun t5 : Int × xS => t5.2) (fun t5 : Int × xS => [(0, .ref (xqa (xXE X).2.2 184)), (1, .ref (xqa (xXE X).2.2 k1)), (2, iV t5.1)]) (fun rec6 hr7 t5 => ?_) n (0, t1.2)
    refine x_iload_n C 2 dX13_endsAll_24 rfl rfl ?_
    refine x_aload_n C 1 dX13_endsAll_25 rfl rfl ?_
    refine x_iconst C (5) dX13_endsAll_26 rfl ?_
    refine x_iald C hk1 (zIl _ rfl) dX13_endsAll_27 (fun _ => ?_)
    refine x_icmp_ge C 82 rfl rfl dX13_endsAll_28 rfl (fun c8 => x_op c8 ?_) (fun c8 => x_on c8 ?_)
    · exact x_vretQ C (hQ _) rfl dX13_endsAll_82
    · refine x_aload_n C 0 dX13_endsAll_31 rfl rfl ?_
      refine x_get (v := .ref (xqa (xXE X).2.2 202)) C 31 cls_X13 at_X13 (by decide) wd1533 rfl (xV_r (rt_X13_toHeat  _) rfl) dX13_endsAll_32 ?_
      refine x_iload_n C 2 dX13_endsAll_35 rfl rfl ?_
      refine x_iald C at_X13_toHeat rfl dX13_endsAll_36 (fun _ => ?_)
      refine x_iconst C (-1) dX13_endsAll_37 rfl ?_
      refine x_join (fun J => ∀ q11 : xS, WO X Qf WW q11 76 [(0, .ref (xqa (xXE X).2.2 184)), (1, .ref (xqa (xXE X).2.2 k1)), (2, iV t5.1)] [] (J q11)) ?_ ?_
      · intro q11
        refine x_inc C 2 (f := _) dX13_endsAll_76 rfl (by decide) (1) rfl (fun v12 => ?_)
        refine x_reL (L' := [(2, _), (0, _), (1, _)]) rfl ?_
        refine x_goto C 24 dX13_endsAll_79 rfl ?_
        refine x_pick [1, 2, 0] rfl ?_
        exact hr7 (v12, q11)
      · intro J9 hJ10
        refine x_icmp_eq C 76 rfl (zIl _ rfl) dX13_endsAll_38 rfl (fun c13 => x_op c13 ?_) (fun c13 => x_on c13 ?_)
        · refine x_pick [0, 1, 2] rfl ?_
          exact hJ10 t5.2
        · refine x_aload_n C 0 dX13_endsAll_41 rfl rfl ?_
          refine x_get (v := .ref (xqa (xXE X).2.2 203)) C 32 cls_X13 at_X13 (by decide) wd1534 rfl (xV_r (rt_X13_changed  _) rfl) dX13_endsAll_42 ?_
          refine x_iload_n C 2 dX13_endsAll_45 rfl rfl ?_
          refine x_iald C at_X13_changed rfl dX13_endsAll_46 (fun _ => ?_)
          refine x_aload_n C 0 dX13_endsAll_47 rfl rfl ?_
          refine x_get (v := iV (t5.2 184 34)) C 34 cls_X13 at_X13 (by decide) wd1536 rfl rfl dX13_endsAll_48 ?_
          refine x_icmp_eq C 57 rfl rfl dX13_endsAll_51 rfl (fun c14 => x_op c14 ?_) (fun c14 => x_on c14 ?_)
          · refine x_aload_n C 0 dX13_endsAll_57 rfl rfl ?_
            refine x_get (v := .ref (xqa (xXE X).2.2 201)) C 30 cls_X13 at_X13 (by decide) wd1532 rfl (xV_r (rt_X13_heat  _) rfl) dX13_endsAll_58 ?_
            refine x_iload_n C 2 dX13_endsAll_61 rfl rfl ?_
            refine x_aload_n C 0 dX13_endsAll_62 rfl rfl ?_
            refine x_get (v := .ref (xqa (xXE X).2.2 202)) C 31 cls_X13 at_X13 (by decide) wd1533 rfl (xV_r (rt_X13_toHeat  _) rfl) dX13_endsAll_63 ?_
            refine x_iload_n C 2 dX13_endsAll_66 rfl rfl ?_
            refine x_iald C at_X13_toHeat rfl dX13_endsAll_67 (fun _ => ?_)
            refine x_iast C at_X13_heat rfl dX13_endsAll_68 (fun _ => ?_)
            refine x_letS (fun s15 => ?_)
            refine x_aload_n C 0 dX13_endsAll_69 rfl rfl ?_
            refine x_get (v := .ref (xqa (xXE X).2.2 202)) C 31 cls_X13 at_X13 (by decide) wd1533 rfl (xV_r (rt_X13_toHeat  _) rfl) dX13_endsAll_70 ?_
            refine x_iload_n C 2 dX13_endsAll_73 rfl rfl ?_
            refine x_iconst C (-1) dX13_endsAll_74 rfl ?_
            refine x_iast C at_X13_toHeat rfl dX13_endsAll_75 (fun _ => ?_)
            refine x_letS (fun s16 => ?_)
            refine x_pick [0, 1, 2] rfl ?_
            exact hJ10 s16
          · refine x_goto C 76 dX13_endsAll_54 rfl ?_
            refine x_pick [0, 1, 2] rfl ?_
            exact hJ10 t5.2
  · refine x_aload_n C 0 dX13_endsAll_10 rfl rfl ?_
    refine x_aload_n C 1 dX13_endsAll_11 rfl rfl ?_
    refine x_iload_n C 2 dX13_endsAll_12 rfl rfl ?_
    refine x_callV C (ct_X13_goesOn _ _ k1 t1.1 t1.2 hk1) mt_X13_goesOn vr_X13_goesOn wd1949 cls_X13 at_X13 rfl ⟨rfl, rfl, Nat.le_of_ble_eq_true rfl, Nat.le_of_ble_eq_true rfl⟩ rfl (by decide) dX13_endsAll_13 (kV (fun s17 => ?_))
    refine x_inc C 2 (f := _) dX13_endsAll_16 rfl (by decide) (1) rfl (fun v18 => ?_)
    refine x_reL (L' := [(2, _), (0, _), (1, _)]) rfl ?_
    refine x_goto C 2 dX13_endsAll_19 rfl ?_
    refine x_pick [1, 2, 0] rfl ?_
    exact hr3 (v18, s17)
theorem ct_X13_endsAll (l : Launch) (E : xE) (n : Nat) (k1 : Nat) (σ : xS) (hk1 : xAt WW k1 0 289)  : xMet l E yX13_endsAll cX13_endsAll 3 none { frames := 3, cells := 0, slots := 0, locals := 67 } [.ref (xqa E.2.2 184), .ref (xqa E.2.2 k1)] WW WW σ (xrV (m_X13_endsAll n k1 σ)) := by
  refine xMet.of0 (by decide) (Nat.le_of_ble_eq_true rfl) rfl rfl (fun X hE C => ?_)
  subst hE
  exact xMap (fun q => (none, q)) (wk_X13_endsAll C (fun _ => rfl) hk1)
theorem mt_X13_endsAll : xMth yX13_endsAll cX13_endsAll 3 none 1 := ⟨wd1948, wd164, ⟨by decide, by decide, rfl⟩⟩
theorem vr_X13_endsAll : xVir yX13_endsAll := ⟨wd1947, wd100⟩
def m_X13_spoils (n : Nat) (k1 : Nat) (σ : xS) : Option xS :=
  loopF (fun rec2 (t1 : Int × Int × xS) => if (zI (t1.2.2 184 29)) ≤ (zI t1.2.1) then xlet (xput t1.2.2 184 29 t1.1) fun s5 => some s5 else xck (zI t1.2.1) 60 <| xlet (t1.2.2 200 (zI t1.2.1).toNat) fun v6 => xck (zI v6) 60 <| xck (zI v6) 60 <| (m_X13_dough k1 (t1.2.2 192 (zI v6).toNat) 4 t1.2.2).bind fun v7 => xj (fun (q10 : Int × xS) => xlet (t1.2.1 + 1) fun v11 => rec2 (q10.1, v11, q10.2)) fun J8 => if (zI ((t1.2.2 184 34) - (t1.2.2 197 (zI v6).toNat))) ≤ (zI v7) then xck (zI t1.1) 60 <| xlet (xput t1.2.2 200 (zI t1.1).toNat v6) fun s13 => xlet (t1.1 + 1) fun v14 => J8 (v14, s13) else xck (zI v6) 60 <| xlet (xput t1.2.2 193 (zI v6).toNat 9) fun s15 => xck (zI v6) 60 <| xlet (xput s15 184 38 (((s15 184 38) + (s15 184 34)) - (s15 197 (zI v6).toNat))) fun s16 => xlet (xput s16 184 35 (s16 184 34)) fun s17 => J8 (t1.1, s17)) n (0, 0, σ)
set_option maxHeartbeats 4000000 in
set_option maxRecDepth 100000 in
theorem wk_X13_spoils {X : xX} {Qf : xS → State → Prop} {n : Nat} {k1 : Nat} {σ : xS} (C : xCx X cX13_spoils "BakeryNightModel" none { frames := 1, cells := 0, slots := 0, locals := 23 } 5) (hQ : ∀ τ, Qf τ = xQf X WW (none, τ)) (hk1 : xAt WW k1 0 289) : WO X Qf WW σ 0 [(0, .ref (xqa (xXE X).2.2 184)), (1, .ref (xqa (xXE X).2.2 k1))] [] (m_X13_spoils n k1 σ) := by
  unfold m_X13_spoils
  refine x_iconst C (0) dX13_spoils_0 rfl ?_
  refine x_istore_n (L' := [(2, _), (0, _), (1, _)]) C dX13_spoils_1 rfl (by decide) rfl ?_
  refine x_iconst C (0) dX13_spoils_2 rfl ?_
  refine x_istore_n (L' := [(3, _), (2, _), (0, _), (1, _)]) C dX13_spoils_3 rfl (by decide) rfl ?_
  refine x_pick [2, 3, 1, 0] rfl ?_
  refine x_loop (fun t1 : Int × Int × xS => t1.2.2) (fun t1 : Int × Int × xS => [(0, .ref (xqa (xXE X).2.2 184)), (1, .ref (xqa (xXE X).2.2 k1)), (2, iV t1.1), (3, iV t1.2.1)]) (fun rec2 hr3 t1 => ?_) n (0, 0, σ)
  refine x_iload_n C 3 dX13_spoils_4 rfl rfl ?_
  refine x_aload_n C 0 dX13_spoils_5 rfl rfl ?_
  refine x_get (v := iV (t1.2.2 184 29)) C 29 cls_X13 at_X13 (by decide) wd1531 rfl rfl dX13_spoils_6 ?_
  refine x_icmp_ge C 107 rfl rfl dX13_spoils_9 rfl (fun c4 => x_op c4 ?_) (fun c4 => x_on c4 ?_)
  · refine x_aload_n C 0 dX13_spoils_107 rfl rfl ?_
    refine x_iload_n C 2 dX13_spoils_108 rfl rfl ?_
    refine x_put C 29 t1.1 cls_X13 at_X13 (by decide) wd1531 rfl rfl rfl rfl (xV_pI rfl) dX13_spoils_109 ?_
    refine x_letS (fun s5 => ?_)
    exact x_vretQ C (hQ _) rfl dX13_spoils_112
  · refine x_aload_n C 0 dX13_spoils_12 rfl rfl ?_
    refine x_get (v := .ref (xqa (xXE X).2.2 200)) C 28 cls_X13 at_X13 (by decide) wd1530 rfl (xV_r (rt_X13_proofed  _) rfl) dX13_spoils_13 ?_
    refine x_iload_n C 3 dX13_spoils_16 rfl rfl ?_
    refine x_iald C at_X13_proofed rfl dX13_spoils_17 (fun _ => ?_)
    refine x_letI (fun v6 => ?_)
    refine x_istore (L' := [(4, _), (0, _), (1, _), (2, _), (3, _)]) C dX13_spoils_18 (by decide) rfl ?_
    refine x_aload_n C 1 dX13_spoils_20 rfl rfl ?_
    refine x_get (v := iV (t1.2.2 184 34)) C 34 cls_X13 at_X13 (by decide) wd1536 rfl rfl dX13_spoils_21 ?_
    refine x_aload_n C 1 dX13_spoils_24 rfl rfl ?_
    refine x_get (v := .ref (xqa (xXE X).2.2 197)) C 24 cls_X13 at_X13 (by decide) wd1526 rfl (xV_r (rt_X13_proofedAt  _) rfl) dX13_spoils_25 ?_
    refine x_iload C 0 dX13_spoils_28 rfl ?_
    refine x_iald C at_X13_proofedAt rfl dX13_spoils_30 (fun _ => ?_)
    refine x_isub C dX13_spoils_31 ?_
    refine x_aload_n C 1 dX13_spoils_32 rfl rfl ?_
    refine x_aload_n C 2 dX13_spoils_33 rfl rfl ?_
    refine x_aload_n C 1 dX13_spoils_34 rfl rfl ?_
    refine x_get (v := .ref (xqa (xXE X).2.2 192)) C 18 cls_X13 at_X13 (by decide) wd1520 rfl (xV_r (rt_X13_batchDough  _) rfl) dX13_spoils_35 ?_
    refine x_iload C 0 dX13_spoils_38 rfl ?_
    refine x_iald C at_X13_batchDough rfl dX13_spoils_40 (fun _ => ?_)
    refine x_iconst C (4) dX13_spoils_41 rfl ?_
    refine x_callV C (ct_X13_dough _ _ k1 (t1.2.2 192 (zI v6).toNat) 4 t1.2.2 hk1) mt_X13_dough vr_X13_dough wd1895 cls_X13 at_X13 rfl ⟨rfl, rfl, Nat.le_of_ble_eq_true rfl, Nat.le_of_ble_eq_true rfl⟩ rfl (Nat.le_of_ble_eq_true rfl) dX13_spoils_42 (kI (fun v7 => ?_))
    refine x_join (fun J => ∀ q10 : Int × xS, WO X Qf WW q10.2 101 [(0, .ref (xqa (xXE X).2.2 184)), (1, .ref (xqa (xXE X).2.2 k1)), (2, iV q10.1), (3, iV t1.2.1)] [] (J q10)) ?_ ?_
    · intro q10
      refine x_inc C 3 (f := _) dX13_spoils_101 rfl (by decide) (1) rfl (fun v11 => ?_)
      refine x_reL (L' := [(3, _), (0, _), (1, _), (2, _)]) rfl ?_
      refine x_goto C 4 dX13_spoils_104 rfl ?_
      refine x_pick [1, 2, 3, 0] rfl ?_
      exact hr3 (q10.1, v11, q10.2)
    · intro J8 hJ9
      refine x_icmp_le C 89 rfl rfl dX13_spoils_45 rfl (fun c12 => x_op c12 ?_) (fun c12 => x_on c12 ?_)
      · refine x_aload_n C 1 dX13_spoils_89 rfl rfl ?_
        refine x_get (v := .ref (xqa (xXE X).2.2 200)) C 28 cls_X13 at_X13 (by decide) wd1530 rfl (xV_r (rt_X13_proofed  _) rfl) dX13_spoils_90 ?_
        refine x_iload_n C 3 dX13_spoils_93 rfl rfl ?_
        refine x_iload C 0 dX13_spoils_94 rfl ?_
        refine x_iast C at_X13_proofed rfl dX13_spoils_96 (fun _ => ?_)
        refine x_letS (fun s13 => ?_)
        refine x_iload_n C 3 dX13_spoils_97 rfl rfl ?_
        refine x_iconst C (1) dX13_spoils_98 rfl ?_
        refine x_iadd C dX13_spoils_99 ?_
        refine x_letI (fun v14 => ?_)
        refine x_istore_n (L' := [(2, _), (4, _), (0, _), (1, _), (3, _)]) C dX13_spoils_100 rfl (by decide) rfl ?_
        refine x_pick [2, 3, 0, 4] rfl ?_
        exact hJ9 (v14, s13)
      · refine x_aload_n C 1 dX13_spoils_48 rfl rfl ?_
        refine x_get (v := .ref (xqa (xXE X).2.2 193)) C 20 cls_X13 at_X13 (by decide) wd1522 rfl (xV_r (rt_X13_state  _) rfl) dX13_spoils_49 ?_
        refine x_iload C 0 dX13_spoils_52 rfl ?_
        refine x_bipush C (9) dX13_spoils_54 rfl ?_
        refine x_iast C at_X13_state rfl dX13_spoils_56 (fun _ => ?_)
        refine x_letS (fun s15 => ?_)
        refine x_aload_n C 1 dX13_spoils_57 rfl rfl ?_
        refine x_aload_n C 1 dX13_spoils_58 rfl rfl ?_
        refine x_get (v := iV (s15 184 38)) C 38 cls_X13 at_X13 (by decide) wd1540 rfl rfl dX13_spoils_59 ?_
        refine x_aload_n C 1 dX13_spoils_62 rfl rfl ?_
        refine x_get (v := iV (s15 184 34)) C 34 cls_X13 at_X13 (by decide) wd1536 rfl rfl dX13_spoils_63 ?_
        refine x_iadd C dX13_spoils_66 ?_
        refine x_aload_n C 1 dX13_spoils_67 rfl rfl ?_
        refine x_get (v := .ref (xqa (xXE X).2.2 197)) C 24 cls_X13 at_X13 (by decide) wd1526 rfl (xV_r (rt_X13_proofedAt  _) rfl) dX13_spoils_68 ?_
        refine x_iload C 0 dX13_spoils_71 rfl ?_
        refine x_iald C at_X13_proofedAt rfl dX13_spoils_73 (fun _ => ?_)
        refine x_isub C dX13_spoils_74 ?_
        refine x_put C 38 (((s15 184 38) + (s15 184 34)) - (s15 197 (zI v6).toNat)) cls_X13 at_X13 (by decide) wd1540 rfl rfl rfl rfl (xV_pI rfl) dX13_spoils_75 ?_
        refine x_letS (fun s16 => ?_)
        refine x_aload_n C 1 dX13_spoils_78 rfl rfl ?_
        refine x_aload_n C 1 dX13_spoils_79 rfl rfl ?_
        refine x_get (v := iV (s16 184 34)) C 34 cls_X13 at_X13 (by decide) wd1536 rfl rfl dX13_spoils_80 ?_
        refine x_put C 35 (s16 184 34) cls_X13 at_X13 (by decide) wd1537 rfl rfl rfl rfl (xV_pI rfl) dX13_spoils_83 ?_
        refine x_letS (fun s17 => ?_)
        refine x_goto C 101 dX13_spoils_86 rfl ?_
        refine x_pick [1, 2, 3, 4] rfl ?_
        exact hJ9 (t1.1, s17)
theorem ct_X13_spoils (l : Launch) (E : xE) (n : Nat) (k1 : Nat) (σ : xS) (hk1 : xAt WW k1 0 289)  : xMet l E yX13_spoils cX13_spoils 5 none { frames := 1, cells := 0, slots := 0, locals := 23 } [.ref (xqa E.2.2 184), .ref (xqa E.2.2 k1)] WW WW σ (xrV (m_X13_spoils n k1 σ)) := by
  refine xMet.of0 (by decide) (Nat.le_of_ble_eq_true rfl) rfl rfl (fun X hE C => ?_)
  subst hE
  exact xMap (fun q => (none, q)) (wk_X13_spoils C (fun _ => rfl) hk1)
theorem mt_X13_spoils : xMth yX13_spoils cX13_spoils 5 none 1 := ⟨wd1960, wd164, ⟨by decide, by decide, rfl⟩⟩
theorem vr_X13_spoils : xVir yX13_spoils := ⟨wd1959, wd103⟩
def m_X13_onShelves (n : Nat) (p1 : Int) (σ : xS) : Option Int :=
  loopF (fun rec2 (t1 : Int × Int) => if (zI (σ 184 19)) ≤ (zI t1.2) then some t1.1 else xck (zI t1.2) 60 <| xj (fun (q7 : Int) => xlet (t1.1 + q7) fun v8 => xlet (t1.2 + 1) fun v9 => rec2 (v8, v9)) fun J5 => xj (fun (q12 : Unit) => J5 0) fun J10 => if (zI (σ 193 (zI t1.2).toNat)) = 7 then xck (zI t1.2) 60 <| if (zI (σ 196 (zI t1.2).toNat)) = (zI p1) then J5 1 else J10 () else J10 ()) n (0, 0)
set_option maxHeartbeats 4000000 in
set_option maxRecDepth 100000 in
theorem wk_X13_onShelves {X : xX} {Qf : Int → State → Prop} {n : Nat} {p1 : Int} {σ : xS} (C : xCx X cX13_onShelves "BakeryNightModel" (some .int) { frames := 0, cells := 0, slots := 0, locals := 0 } 4) (hQ : ∀ v, Qf v = xQf X WW (some (iV v), σ))  : WO X Qf WW σ 0 [(0, .ref (xqa (xXE X).2.2 184)), (1, iV p1)] [] (m_X13_onShelves n p1 σ) := by
  unfold m_X13_onShelves
  refine x_iconst C (0) dX13_onShelves_0 rfl ?_
  refine x_istore_n (L' := [(2, _), (0, _), (1, _)]) C dX13_onShelves_1 rfl (by decide) rfl ?_
  refine x_iconst C (0) dX13_onShelves_2 rfl ?_
  refine x_istore_n (L' := [(3, _), (2, _), (0, _), (1, _)]) C dX13_onShelves_3 rfl (by decide) rfl ?_
  refine x_pick [2, 3, 1, 0] rfl ?_
  refine x_loop (fun t1 : Int × Int => σ) (fun t1 : Int × Int => [(0, .ref (xqa (xXE X).2.2 184)), (1, iV p1), (2, iV t1.1), (3, iV t1.2)]) (fun rec2 hr3 t1 => ?_) n (0, 0)
  refine x_iload_n C 3 dX13_onShelves_4 rfl rfl ?_
  refine x_aload_n C 0 dX13_onShelves_5 rfl rfl ?_
  refine x_get (v := iV (σ 184 19)) C 19 cls_X13 at_X13 (by decide) wd1521 rfl rfl dX13_onShelves_6 ?_
  refine x_icmp_ge C 47 rfl rfl dX13_onShelves_9 rfl (fun c4 => x_op c4 ?_) (fun c4 => x_on c4 ?_)
  · refine x_iload_n C 2 dX13_onShelves_47 rfl rfl ?_
    exact x_iretQ C (hQ _) rfl dX13_onShelves_48
  · refine x_iload_n C 2 dX13_onShelves_12 rfl rfl ?_
    refine x_aload_n C 0 dX13_onShelves_13 rfl rfl ?_
    refine x_get (v := .ref (xqa (xXE X).2.2 193)) C 20 cls_X13 at_X13 (by decide) wd1522 rfl (xV_r (rt_X13_state  _) rfl) dX13_onShelves_14 ?_
    refine x_iload_n C 3 dX13_onShelves_17 rfl rfl ?_
    refine x_iald C at_X13_state rfl dX13_onShelves_18 (fun _ => ?_)
    refine x_bipush C (7) dX13_onShelves_19 rfl ?_
    refine x_join (fun J => ∀ q7 : Int, WO X Qf WW σ 39 [(0, .ref (xqa (xXE X).2.2 184)), (1, iV p1), (3, iV t1.2)] [iV q7, iV t1.1] (J q7)) ?_ ?_
    · intro q7
      refine x_iadd C dX13_onShelves_39 ?_
      refine x_letI (fun v8 => ?_)
      refine x_istore_n (L' := [(2, _), (0, _), (1, _), (3, _)]) C dX13_onShelves_40 rfl (by decide) rfl ?_
      refine x_inc C 3 (f := _) dX13_onShelves_41 rfl (by decide) (1) rfl (fun v9 => ?_)
      refine x_reL (L' := [(3, _), (2, _), (0, _), (1, _)]) rfl ?_
      refine x_goto C 4 dX13_onShelves_44 rfl ?_
      refine x_pick [2, 3, 1, 0] rfl ?_
      exact hr3 (v8, v9)
    · intro J5 hJ6
      refine x_join (fun J => ∀ q12 : Unit, WO X Qf WW σ 38 [(0, .ref (xqa (xXE X).2.2 184)), (1, iV p1), (3, iV t1.2)] [iV t1.1] (J q12)) ?_ ?_
      · intro q12
        refine x_iconst C (0) dX13_onShelves_38 rfl ?_
        refine x_pick [0, 1, 2] rfl ?_
        exact hJ6 0
      · intro J10 hJ11
        refine x_icmp_ne C 38 rfl (zIl _ rfl) dX13_onShelves_21 rfl (fun c13 => x_on c13 ?_) (fun c13 => x_op c13 ?_)
        · refine x_pick [0, 1, 3] rfl ?_
          exact hJ11 ()
        · refine x_aload_n C 0 dX13_onShelves_24 rfl rfl ?_
          refine x_get (v := .ref (xqa (xXE X).2.2 196)) C 23 cls_X13 at_X13 (by decide) wd1525 rfl (xV_r (rt_X13_inOven  _) rfl) dX13_onShelves_25 ?_
          refine x_iload_n C 3 dX13_onShelves_28 rfl rfl ?_
          refine x_iald C at_X13_inOven rfl dX13_onShelves_29 (fun _ => ?_)
          refine x_iload_n C 1 dX13_onShelves_30 rfl rfl ?_
          refine x_icmp_ne C 38 rfl rfl dX13_onShelves_31 rfl (fun c14 => x_on c14 ?_) (fun c14 => x_op c14 ?_)
          · refine x_pick [0, 1, 3] rfl ?_
            exact hJ11 ()
          · refine x_iconst C (1) dX13_onShelves_34 rfl ?_
            refine x_goto C 39 dX13_onShelves_35 rfl ?_
            refine x_pick [0, 1, 3] rfl ?_
            exact hJ6 1
theorem ct_X13_onShelves (l : Launch) (E : xE) (n : Nat) (p1 : Int) (σ : xS)   : xMet l E yX13_onShelves cX13_onShelves 4 (some .int) { frames := 0, cells := 0, slots := 0, locals := 0 } [.ref (xqa E.2.2 184), iV p1] WW WW σ (xrI (m_X13_onShelves n p1 σ) σ) := by
  refine xMet.of0 (by decide) (Nat.le_of_ble_eq_true rfl) rfl rfl (fun X hE C => ?_)
  subst hE
  exact xMap (fun v => (some (iV v), σ)) (wk_X13_onShelves C (fun _ => rfl) )
theorem mt_X13_onShelves : xMth yX13_onShelves cX13_onShelves 4 (some .int) 1 := ⟨wd1976, wd164, ⟨by decide, by decide, rfl⟩⟩
theorem vr_X13_onShelves : xVir yX13_onShelves := ⟨wd1975, wd107⟩
def m_X13_isUsable (k1 : Nat) (p2 : Int) (σ : xS) : Option Int :=
  (m_X13_oven k1 p2 3 σ).bind fun v1 => xj (fun (q4 : Int) => xbo q4 (some q4)) fun J2 => xj (fun (q7 : Unit) => J2 0) fun J5 => if (zI v1) = 0 then xck (zI p2) 4 <| if (zI (σ 202 (zI p2).toNat)) = (-1) then J2 1 else J5 () else J5 ()
set_option maxHeartbeats 4000000 in
set_option maxRecDepth 100000 in
theorem wk_X13_isUsable {X : xX} {Qf : Int → State → Prop} {k1 : Nat} {p2 : Int} {σ : xS} (C : xCx X cX13_isUsable "BakeryNightModel" (some .boolean) { frames := 1, cells := 0, slots := 0, locals := 23 } 3) (hQ : ∀ v, Qf v = xQf X WW (some (iV v), σ)) (hk1 : xAt WW k1 0 289) : WO X Qf WW σ 0 [(0, .ref (xqa (xXE X).2.2 184)), (1, .ref (xqa (xXE X).2.2 k1)), (2, iV p2)] [] (m_X13_isUsable k1 p2 σ) := by
  unfold m_X13_isUsable
  refine x_aload_n C 0 dX13_isUsable_0 rfl rfl ?_
  refine x_aload_n C 1 dX13_isUsable_1 rfl rfl ?_
  refine x_iload_n C 2 dX13_isUsable_2 rfl rfl ?_
  refine x_iconst C (3) dX13_isUsable_3 rfl ?_
  refine x_callV C (ct_X13_oven _ _ k1 p2 3 σ hk1) mt_X13_oven vr_X13_oven wd1937 cls_X13 at_X13 rfl ⟨rfl, rfl, Nat.le_of_ble_eq_true rfl, Nat.le_of_ble_eq_true rfl⟩ rfl (by decide) dX13_isUsable_4 (kI (fun v1 => ?_))
  refine x_join (fun J => ∀ q4 : Int, WO X Qf WW σ 25 [] [iV q4] (J q4)) ?_ ?_
  · intro q4
    exact x_bo (fun hb => x_zretQ C (hQ _) rfl hb dX13_isUsable_25)
  · intro J2 hJ3
    refine x_join (fun J => ∀ q7 : Unit, WO X Qf WW σ 24 [] [] (J q7)) ?_ ?_
    · intro q7
      refine x_iconst C (0) dX13_isUsable_24 rfl ?_
      refine x_pick [] rfl ?_
      exact hJ3 0
    · intro J5 hJ6
      refine x_if_ne C 24 rfl dX13_isUsable_7 rfl (fun c8 => x_on c8 ?_) (fun c8 => x_op c8 ?_)
      · refine x_pick [] rfl ?_
        exact hJ6 ()
      · refine x_aload_n C 0 dX13_isUsable_10 rfl rfl ?_
        refine x_get (v := .ref (xqa (xXE X).2.2 202)) C 31 cls_X13 at_X13 (by decide) wd1533 rfl (xV_r (rt_X13_toHeat  _) rfl) dX13_isUsable_11 ?_
        refine x_iload_n C 2 dX13_isUsable_14 rfl rfl ?_
        refine x_iald C at_X13_toHeat rfl dX13_isUsable_15 (fun _ => ?_)
        refine x_iconst C (-1) dX13_isUsable_16 rfl ?_
        refine x_icmp_ne C 24 rfl (zIl _ rfl) dX13_isUsable_17 rfl (fun c9 => x_on c9 ?_) (fun c9 => x_op c9 ?_)
        · refine x_pick [] rfl ?_
          exact hJ6 ()
        · refine x_iconst C (1) dX13_isUsable_20 rfl ?_
          refine x_goto C 25 dX13_isUsable_21 rfl ?_
          refine x_pick [] rfl ?_
          exact hJ3 1
theorem ct_X13_isUsable (l : Launch) (E : xE) (k1 : Nat) (p2 : Int) (σ : xS) (hk1 : xAt WW k1 0 289)  : xMet l E yX13_isUsable cX13_isUsable 3 (some .boolean) { frames := 1, cells := 0, slots := 0, locals := 23 } [.ref (xqa E.2.2 184), .ref (xqa E.2.2 k1), iV p2] WW WW σ (xrI (m_X13_isUsable k1 p2 σ) σ) := by
  refine xMet.of0 (by decide) (Nat.le_of_ble_eq_true rfl) rfl rfl (fun X hE C => ?_)
  subst hE
  exact xMap (fun v => (some (iV v), σ)) (wk_X13_isUsable C (fun _ => rfl) hk1)
theorem mt_X13_isUsable : xMth yX13_isUsable cX13_isUsable 3 (some .boolean) 2 := ⟨wd1972, wd164, ⟨by decide, by decide, rfl⟩⟩
theorem vr_X13_isUsable : xVir yX13_isUsable := ⟨wd1971, wd106⟩
def m_X13_ovenFor (n : Nat) (k1 : Nat) (p2 : Int) (σ : xS) : Option Int :=
  loopF (fun rec2 (t1 : Int) => xck 5 289 <| if (zI (σ k1 (5 : Int).toNat)) ≤ (zI t1) then some (-1) else (m_X13_isUsable k1 t1 σ).bind fun v5 => xj (fun (q8 : Unit) => xlet (t1 + 1) fun v9 => rec2 v9) fun J6 => if (zI v5) = 0 then J6 () else xck (zI t1) 4 <| if (zI (σ 201 (zI t1).toNat)) = (zI p2) then (m_X13_onShelves n t1 σ).bind fun v12 => (m_X13_oven k1 t1 0 σ).bind fun v13 => if (zI v13) ≤ (zI v12) then J6 () else some t1 else J6 ()) n 0
set_option maxHeartbeats 4000000 in
set_option maxRecDepth 100000 in
theorem wk_X13_ovenFor {X : xX} {Qf : Int → State → Prop} {n : Nat} {k1 : Nat} {p2 : Int} {σ : xS} (C : xCx X cX13_ovenFor "BakeryNightModel" (some .int) { frames := 2, cells := 0, slots := 0, locals := 45 } 4) (hQ : ∀ v, Qf v = xQf X WW (some (iV v), σ)) (hk1 : xAt WW k1 0 289) : WO X Qf WW σ 0 [(0, .ref (xqa (xXE X).2.2 184)), (1, .ref (xqa (xXE X).2.2 k1)), (2, iV p2)] [] (m_X13_ovenFor n k1 p2 σ) := by
  unfold m_X13_ovenFor
  refine x_iconst C (0) dX13_ovenFor_0 rfl ?_
  refine x_istore_n (L' := [(3, _), (0, _), (1, _), (2, _)]) C dX13_ovenFor_1 rfl (by decide) rfl ?_
  refine x_pick [1, 2, 3, 0] rfl ?_
  refine x_loop (fun t1 : Int => σ) (fun t1 : Int => [(0, .ref (xqa (xXE X).2.2 184)), (1, .ref (xqa (xXE X).2.2 k1)), (2, iV p2), (3, iV t1)]) (fun rec2 hr3 t1 => ?_) n 0
  refine x_iload_n C 3 dX13_ovenFor_2 rfl rfl ?_
  refine x_aload_n C 1 dX13_ovenFor_3 rfl rfl ?_
  refine x_iconst C (5) dX13_ovenFor_4 rfl ?_
  refine x_iald C hk1 (zIl _ rfl) dX13_ovenFor_5 (fun _ => ?_)
  refine x_icmp_ge C 51 rfl rfl dX13_ovenFor_6 rfl (fun c4 => x_op c4 ?_) (fun c4 => x_on c4 ?_)
  · refine x_iconst C (-1) dX13_ovenFor_51 rfl ?_
    exact x_iretQ C (hQ _) rfl dX13_ovenFor_52
  · refine x_aload_n C 0 dX13_ovenFor_9 rfl rfl ?_
    refine x_aload_n C 1 dX13_ovenFor_10 rfl rfl ?_
    refine x_iload_n C 3 dX13_ovenFor_11 rfl rfl ?_
    refine x_callV C (ct_X13_isUsable _ _ k1 t1 σ hk1) mt_X13_isUsable vr_X13_isUsable wd1969 cls_X13 at_X13 rfl ⟨rfl, rfl, Nat.le_of_ble_eq_true rfl, Nat.le_of_ble_eq_true rfl⟩ rfl (by decide) dX13_ovenFor_12 (kI (fun v5 => ?_))
    refine x_join (fun J => ∀ q8 : Unit, WO X Qf WW σ 45 [(0, .ref (xqa (xXE X).2.2 184)), (1, .ref (xqa (xXE X).2.2 k1)), (2, iV p2), (3, iV t1)] [] (J q8)) ?_ ?_
    · intro q8
      refine x_inc C 3 (f := _) dX13_ovenFor_45 rfl (by decide) (1) rfl (fun v9 => ?_)
      refine x_reL (L' := [(3, _), (0, _), (1, _), (2, _)]) rfl ?_
      refine x_goto C 2 dX13_ovenFor_48 rfl ?_
      refine x_pick [1, 2, 3, 0] rfl ?_
      exact hr3 v9
    · intro J6 hJ7
      refine x_if_eq C 45 rfl dX13_ovenFor_15 rfl (fun c10 => x_op c10 ?_) (fun c10 => x_on c10 ?_)
      · refine x_pick [0, 1, 2, 3] rfl ?_
        exact hJ7 ()
      · refine x_aload_n C 0 dX13_ovenFor_18 rfl rfl ?_
        refine x_get (v := .ref (xqa (xXE X).2.2 201)) C 30 cls_X13 at_X13 (by decide) wd1532 rfl (xV_r (rt_X13_heat  _) rfl) dX13_ovenFor_19 ?_
        refine x_iload_n C 3 dX13_ovenFor_22 rfl rfl ?_
        refine x_iald C at_X13_heat rfl dX13_ovenFor_23 (fun _ => ?_)
        refine x_iload_n C 2 dX13_ovenFor_24 rfl rfl ?_
        refine x_icmp_ne C 45 rfl rfl dX13_ovenFor_25 rfl (fun c11 => x_on c11 ?_) (fun c11 => x_op c11 ?_)
        · refine x_pick [0, 1, 2, 3] rfl ?_
          exact hJ7 ()
        · refine x_aload_n C 0 dX13_ovenFor_28 rfl rfl ?_
          refine x_iload_n C 3 dX13_ovenFor_29 rfl rfl ?_
          refine x_callV C (ct_X13_onShelves _ _ n t1 σ) mt_X13_onShelves vr_X13_onShelves wd1973 cls_X13 at_X13 rfl ⟨rfl, rfl, Nat.le_of_ble_eq_true rfl, Nat.le_of_ble_eq_true rfl⟩ rfl (by decide) dX13_ovenFor_30 (kI (fun v12 => ?_))
          refine x_aload_n C 0 dX13_ovenFor_33 rfl rfl ?_
          refine x_aload_n C 1 dX13_ovenFor_34 rfl rfl ?_
          refine x_iload_n C 3 dX13_ovenFor_35 rfl rfl ?_
          refine x_iconst C (0) dX13_ovenFor_36 rfl ?_
          refine x_callV C (ct_X13_oven _ _ k1 t1 0 σ hk1) mt_X13_oven vr_X13_oven wd1937 cls_X13 at_X13 rfl ⟨rfl, rfl, Nat.le_of_ble_eq_true rfl, Nat.le_of_ble_eq_true rfl⟩ rfl (Nat.le_of_ble_eq_true rfl) dX13_ovenFor_37 (kI (fun v13 => ?_))
          refine x_icmp_ge C 45 rfl rfl dX13_ovenFor_40 rfl (fun c14 => x_op c14 ?_) (fun c14 => x_on c14 ?_)
          · refine x_pick [0, 1, 2, 3] rfl ?_
            exact hJ7 ()
          · refine x_iload_n C 3 dX13_ovenFor_43 rfl rfl ?_
            exact x_iretQ C (hQ _) rfl dX13_ovenFor_44
theorem ct_X13_ovenFor (l : Launch) (E : xE) (n : Nat) (k1 : Nat) (p2 : Int) (σ : xS) (hk1 : xAt WW k1 0 289)  : xMet l E yX13_ovenFor cX13_ovenFor 4 (some .int) { frames := 2, cells := 0, slots := 0, locals := 45 } [.ref (xqa E.2.2 184), .ref (xqa E.2.2 k1), iV p2] WW WW σ (xrI (m_X13_ovenFor n k1 p2 σ) σ) := by
  refine xMet.of0 (by decide) (Nat.le_of_ble_eq_true rfl) rfl rfl (fun X hE C => ?_)
  subst hE
  exact xMap (fun v => (some (iV v), σ)) (wk_X13_ovenFor C (fun _ => rfl) hk1)
theorem mt_X13_ovenFor : xMth yX13_ovenFor cX13_ovenFor 4 (some .int) 2 := ⟨wd1968, wd164, ⟨by decide, by decide, rfl⟩⟩
theorem vr_X13_ovenFor : xVir yX13_ovenFor := ⟨wd1967, wd105⟩
def m_X13_isOneChanging (n : Nat) (k1 : Nat) (p2 : Int) (σ : xS) : Option Int :=
  loopF (fun rec2 (t1 : Int) => xck 5 289 <| if (zI (σ k1 (5 : Int).toNat)) ≤ (zI t1) then some 0 else xck (zI t1) 4 <| if (zI (σ 202 (zI t1).toNat)) = (zI p2) then some 1 else xlet (t1 + 1) fun v6 => rec2 v6) n 0
set_option maxHeartbeats 4000000 in
set_option maxRecDepth 100000 in
theorem wk_X13_isOneChanging {X : xX} {Qf : Int → State → Prop} {n : Nat} {k1 : Nat} {p2 : Int} {σ : xS} (C : xCx X cX13_isOneChanging "BakeryNightModel" (some .boolean) { frames := 0, cells := 0, slots := 0, locals := 0 } 4) (hQ : ∀ v, Qf v = xQf X WW (some (iV v), σ)) (hk1 : xAt WW k1 0 289) : WO X Qf WW σ 0 [(0, .ref (xqa (xXE X).2.2 184)), (1, .ref (xqa (xXE X).2.2 k1)), (2, iV p2)] [] (m_X13_isOneChanging n k1 p2 σ) := by
  unfold m_X13_isOneChanging
  refine x_iconst C (0) dX13_isOneChanging_0 rfl ?_
  refine x_istore_n (L' := [(3, _), (0, _), (1, _), (2, _)]) C dX13_isOneChanging_1 rfl (by decide) rfl ?_
  refine x_pick [1, 2, 3, 0] rfl ?_
  refine x_loop (fun t1 : Int => σ) (fun t1 : Int => [(0, .ref (xqa (xXE X).2.2 184)), (1, .ref (xqa (xXE X).2.2 k1)), (2, iV p2), (3, iV t1)]) (fun rec2 hr3 t1 => ?_) n 0
  refine x_iload_n C 3 dX13_isOneChanging_2 rfl rfl ?_
  refine x_aload_n C 1 dX13_isOneChanging_3 rfl rfl ?_
  refine x_iconst C (5) dX13_isOneChanging_4 rfl ?_
  refine x_iald C hk1 (zIl _ rfl) dX13_isOneChanging_5 (fun _ => ?_)
  refine x_icmp_ge C 27 rfl rfl dX13_isOneChanging_6 rfl (fun c4 => x_op c4 ?_) (fun c4 => x_on c4 ?_)
  · refine x_iconst C (0) dX13_isOneChanging_27 rfl ?_
    exact x_zretQ C (hQ _) rfl (Or.inl rfl) dX13_isOneChanging_28
  · refine x_aload_n C 0 dX13_isOneChanging_9 rfl rfl ?_
    refine x_get (v := .ref (xqa (xXE X).2.2 202)) C 31 cls_X13 at_X13 (by decide) wd1533 rfl (xV_r (rt_X13_toHeat  _) rfl) dX13_isOneChanging_10 ?_
    refine x_iload_n C 3 dX13_isOneChanging_13 rfl rfl ?_
    refine x_iald C at_X13_toHeat rfl dX13_isOneChanging_14 (fun _ => ?_)
    refine x_iload_n C 2 dX13_isOneChanging_15 rfl rfl ?_
    refine x_icmp_ne C 21 rfl rfl dX13_isOneChanging_16 rfl (fun c5 => x_on c5 ?_) (fun c5 => x_op c5 ?_)
    · refine x_inc C 3 (f := _) dX13_isOneChanging_21 rfl (by decide) (1) rfl (fun v6 => ?_)
      refine x_reL (L' := [(3, _), (0, _), (1, _), (2, _)]) rfl ?_
      refine x_goto C 2 dX13_isOneChanging_24 rfl ?_
      refine x_pick [1, 2, 3, 0] rfl ?_
      exact hr3 v6
    · refine x_iconst C (1) dX13_isOneChanging_19 rfl ?_
      exact x_zretQ C (hQ _) rfl (Or.inr rfl) dX13_isOneChanging_20
theorem ct_X13_isOneChanging (l : Launch) (E : xE) (n : Nat) (k1 : Nat) (p2 : Int) (σ : xS) (hk1 : xAt WW k1 0 289)  : xMet l E yX13_isOneChanging cX13_isOneChanging 4 (some .boolean) { frames := 0, cells := 0, slots := 0, locals := 0 } [.ref (xqa E.2.2 184), .ref (xqa E.2.2 k1), iV p2] WW WW σ (xrI (m_X13_isOneChanging n k1 p2 σ) σ) := by
  refine xMet.of0 (by decide) (Nat.le_of_ble_eq_true rfl) rfl rfl (fun X hE C => ?_)
  subst hE
  exact xMap (fun v => (some (iV v), σ)) (wk_X13_isOneChanging C (fun _ => rfl) hk1)
theorem mt_X13_isOneChanging : xMth yX13_isOneChanging cX13_isOneChanging 4 (some .boolean) 2 := ⟨wd1980, wd164, ⟨by decide, by decide, rfl⟩⟩
theorem vr_X13_isOneChanging : xVir yX13_isOneChanging := ⟨wd1979, wd108⟩
def m_X13_changeMinutes (k1 : Nat) (p2 : Int) (p3 : Int) (σ : xS) : Option Int :=
  xck (zI p2) 4 <| xj (fun (q3 : Int) => (m_X13_oven k1 p2 2 σ).bind fun v4 => (m_X13_up q3 v4 σ).bind fun v5 => some v5) fun J1 => if (zI p3) ≤ (zI (σ 201 (zI p2).toNat)) then xck (zI p2) 4 <| J1 ((σ 201 (zI p2).toNat) - p3) else xck (zI p2) 4 <| J1 (p3 - (σ 201 (zI p2).toNat))
set_option maxHeartbeats 4000000 in
set_option maxRecDepth 100000 in
theorem wk_X13_changeMinutes {X : xX} {Qf : Int → State → Prop} {k1 : Nat} {p2 : Int} {p3 : Int} {σ : xS} (C : xCx X cX13_changeMinutes "BakeryNightModel" (some .int) { frames := 1, cells := 0, slots := 0, locals := 23 } 4) (hQ : ∀ v, Qf v = xQf X WW (some (iV v), σ)) (hk1 : xAt WW k1 0 289) : WO X Qf WW σ 0 [(0, .ref (xqa (xXE X).2.2 184)), (1, .ref (xqa (xXE X).2.2 k1)), (2, iV p2), (3, iV p3)] [] (m_X13_changeMinutes k1 p2 p3 σ) := by
  unfold m_X13_changeMinutes
  refine x_aload_n C 0 dX13_changeMinutes_0 rfl rfl ?_
  refine x_iload_n C 3 dX13_changeMinutes_1 rfl rfl ?_
  refine x_aload_n C 0 dX13_changeMinutes_2 rfl rfl ?_
  refine x_get (v := .ref (xqa (xXE X).2.2 201)) C 30 cls_X13 at_X13 (by decide) wd1532 rfl (xV_r (rt_X13_heat  _) rfl) dX13_changeMinutes_3 ?_
  refine x_iload_n C 2 dX13_changeMinutes_6 rfl rfl ?_
  refine x_iald C at_X13_heat rfl dX13_changeMinutes_7 (fun _ => ?_)
  refine x_join (fun J => ∀ q3 : Int, WO X Qf WW σ 30 [(0, .ref (xqa (xXE X).2.2 184)), (1, .ref (xqa (xXE X).2.2 k1)), (2, iV p2)] [iV q3, .ref (xqa (xXE X).2.2 184)] (J q3)) ?_ ?_
  · intro q3
    refine x_aload_n C 0 dX13_changeMinutes_30 rfl rfl ?_
    refine x_aload_n C 1 dX13_changeMinutes_31 rfl rfl ?_
    refine x_iload_n C 2 dX13_changeMinutes_32 rfl rfl ?_
    refine x_iconst C (2) dX13_changeMinutes_33 rfl ?_
    refine x_callV C (ct_X13_oven _ _ k1 p2 2 σ hk1) mt_X13_oven vr_X13_oven wd1937 cls_X13 at_X13 rfl ⟨rfl, rfl, Nat.le_of_ble_eq_true rfl, Nat.le_of_ble_eq_true rfl⟩ rfl (Nat.le_of_ble_eq_true rfl) dX13_changeMinutes_34 (kI (fun v4 => ?_))
    refine x_callV C (ct_X13_up _ _ q3 v4 σ) mt_X13_up vr_X13_up wd1899 cls_X13 at_X13 rfl ⟨rfl, rfl, Nat.le_of_ble_eq_true rfl, Nat.le_of_ble_eq_true rfl⟩ rfl (by decide) dX13_changeMinutes_37 (kI (fun v5 => ?_))
    exact x_iretQ C (hQ _) rfl dX13_changeMinutes_40
  · intro J1 hJ2
    refine x_icmp_le C 22 rfl rfl dX13_changeMinutes_8 rfl (fun c6 => x_op c6 ?_) (fun c6 => x_on c6 ?_)
    · refine x_aload_n C 0 dX13_changeMinutes_22 rfl rfl ?_
      refine x_get (v := .ref (xqa (xXE X).2.2 201)) C 30 cls_X13 at_X13 (by decide) wd1532 rfl (xV_r (rt_X13_heat  _) rfl) dX13_changeMinutes_23 ?_
      refine x_iload_n C 2 dX13_changeMinutes_26 rfl rfl ?_
      refine x_iald C at_X13_heat rfl dX13_changeMinutes_27 (fun _ => ?_)
      refine x_iload_n C 3 dX13_changeMinutes_28 rfl rfl ?_
      refine x_isub C dX13_changeMinutes_29 ?_
      refine x_pick [0, 1, 2] rfl ?_
      exact hJ2 ((σ 201 (zI p2).toNat) - p3)
    · refine x_iload_n C 3 dX13_changeMinutes_11 rfl rfl ?_
      refine x_aload_n C 0 dX13_changeMinutes_12 rfl rfl ?_
      refine x_get (v := .ref (xqa (xXE X).2.2 201)) C 30 cls_X13 at_X13 (by decide) wd1532 rfl (xV_r (rt_X13_heat  _) rfl) dX13_changeMinutes_13 ?_
      refine x_iload_n C 2 dX13_changeMinutes_16 rfl rfl ?_
      refine x_iald C at_X13_heat rfl dX13_changeMinutes_17 (fun _ => ?_)
      refine x_isub C dX13_changeMinutes_18 ?_
      refine x_goto C 30 dX13_changeMinutes_19 rfl ?_
      refine x_pick [0, 1, 2] rfl ?_
      exact hJ2 (p3 - (σ 201 (zI p2).toNat))
theorem ct_X13_changeMinutes (l : Launch) (E : xE) (k1 : Nat) (p2 : Int) (p3 : Int) (σ : xS) (hk1 : xAt WW k1 0 289)  : xMet l E yX13_changeMinutes cX13_changeMinutes 4 (some .int) { frames := 1, cells := 0, slots := 0, locals := 23 } [.ref (xqa E.2.2 184), .ref (xqa E.2.2 k1), iV p2, iV p3] WW WW σ (xrI (m_X13_changeMinutes k1 p2 p3 σ) σ) := by
  refine xMet.of0 (by decide) (Nat.le_of_ble_eq_true rfl) rfl rfl (fun X hE C => ?_)
  subst hE
  exact xMap (fun v => (some (iV v), σ)) (wk_X13_changeMinutes C (fun _ => rfl) hk1)
theorem mt_X13_changeMinutes : xMth yX13_changeMinutes cX13_changeMinutes 4 (some .int) 3 := ⟨wd1988, wd164, ⟨by decide, by decide, rfl⟩⟩
theorem vr_X13_changeMinutes : xVir yX13_changeMinutes := ⟨wd1987, wd110⟩
def m_X13_heats (n : Nat) (k1 : Nat) (p2 : Int) (σ : xS) : Option xS :=
  xlet (-1) fun v1 => loopF (fun rec3 (t2 : Int × Int) => xck 5 289 <| if (zI (σ k1 (5 : Int).toNat)) ≤ (zI t2.2) then if (zI t2.1) = (-1) then some σ else (m_X13_changeMinutes k1 t2.1 p2 σ).bind fun v7 => xck (zI t2.1) 4 <| xlet (xput σ 202 (zI t2.1).toNat p2) fun s8 => xck (zI t2.1) 4 <| xlet (xput s8 203 (zI t2.1).toNat ((s8 184 34) + v7)) fun s9 => xck (zI t2.1) 4 <| xck (zI t2.1) 4 <| xlet (xput s9 204 (zI t2.1).toNat ((s9 204 (zI t2.1).toNat) + v7)) fun s10 => some s10 else (m_X13_isUsable k1 t2.2 σ).bind fun v11 => xj (fun (q15 : Int) => xlet (t2.2 + 1) fun v16 => rec3 (q15, v16)) fun J13 => if (zI v11) = 0 then J13 t2.1 else (m_X13_onShelves n t2.2 σ).bind fun v18 => if (zI v18) ≤ 0 then xj (fun (q23 : Unit) => J13 t2.2) fun J21 => if (zI t2.1) = (-1) then J21 () else (m_X13_changeMinutes k1 t2.2 p2 σ).bind fun v25 => (m_X13_changeMinutes k1 t2.1 p2 σ).bind fun v26 => if (zI v26) ≤ (zI v25) then J13 t2.1 else J21 () else J13 t2.1) n (v1, 0)
set_option maxHeartbeats 4000000 in
set_option maxRecDepth 100000 in
theorem wk_X13_heats {X : xX} {Qf : xS → State → Prop} {n : Nat} {k1 : Nat} {p2 : Int} {σ : xS} (C : xCx X cX13_heats "BakeryNightModel" none { frames := 2, cells := 0, slots := 0, locals := 46 } 5) (hQ : ∀ τ, Qf τ = xQf X WW (none, τ)) (hk1 : xAt WW k1 0 289) : WO X Qf WW σ 0 [(0, .ref (xqa (xXE X).2.2 184)), (1, .ref (xqa (xXE X).2.2 k1)), (2, iV p2)] [] (m_X13_heats n k1 p2 σ) := by
  unfold m_X13_heats
  refine x_iconst C (-1) dX13_heats_0 rfl ?_
  refine x_letI (fun v1 => ?_)
  refine x_istore_n (L' := [(3, _), (0, _), (1, _), (2, _)]) C dX13_heats_1 rfl (by decide) rfl ?_
  refine x_iconst C (0) dX13_heats_2 rfl ?_
  refine x_istore (L' := [(4, _), (3, _), (0, _), (1, _), (2, _)]) C dX13_heats_3 (by decide) rfl ?_
  refine x_pick [2, 3, 4, 1, 0] rfl ?_
  refine x_loop (fun t2 : Int × Int => σ) (fun t2 : Int × Int => [(0, .ref (xqa (xXE X).2.2 184)), (1, .ref (xqa (xXE X).2.2 k1)), (2, iV p2), (3, iV t2.1), (4, iV t2.2)]) (fun rec3 hr4 t2 => ?_) n (v1, 0)
  refine x_iload C 4 dX13_heats_5 rfl ?_
  refine x_aload_n C 1 dX13_heats_7 rfl rfl ?_
  refine x_iconst C (5) dX13_heats_8 rfl ?_
  refine x_iald C hk1 (zIl _ rfl) dX13_heats_9 (fun _ => ?_)
  refine x_icmp_ge C 67 rfl rfl dX13_heats_10 rfl (fun c5 => x_op c5 ?_) (fun c5 => x_on c5 ?_)
  · refine x_iload_n C 3 dX13_heats_67 rfl rfl ?_
    refine x_iconst C (-1) dX13_heats_68 rfl ?_
    refine x_icmp_ne C 73 rfl (zIl _ rfl) dX13_heats_69 rfl (fun c6 => x_on c6 ?_) (fun c6 => x_op c6 ?_)
    · refine x_aload_n C 0 dX13_heats_73 rfl rfl ?_
      refine x_aload_n C 1 dX13_heats_74 rfl rfl ?_
      refine x_iload_n C 3 dX13_heats_75 rfl rfl ?_
      refine x_iload_n C 2 dX13_heats_76 rfl rfl ?_
      refine x_callV C (ct_X13_changeMinutes _ _ k1 t2.1 p2 σ hk1) mt_X13_changeMinutes vr_X13_changeMinutes wd1985 cls_X13 at_X13 rfl ⟨rfl, rfl, Nat.le_of_ble_eq_true rfl, Nat.le_of_ble_eq_true rfl⟩ rfl (by decide) dX13_heats_77 (kI (fun v7 => ?_))
      refine x_istore (L' := [(4, _), (0, _), (1, _), (2, _), (3, _)]) C dX13_heats_80 (by decide) rfl ?_
      refine x_aload_n C 1 dX13_heats_82 rfl rfl ?_
      refine x_get (v := .ref (xqa (xXE X).2.2 202)) C 31 cls_X13 at_X13 (by decide) wd1533 rfl (xV_r (rt_X13_toHeat  _) rfl) dX13_heats_83 ?_
      refine x_iload_n C 4 dX13_heats_86 rfl rfl ?_
      refine x_iload_n C 3 dX13_heats_87 rfl rfl ?_
      refine x_iast C at_X13_toHeat rfl dX13_heats_88 (fun _ => ?_)
      refine x_letS (fun s8 => ?_)
      refine x_aload_n C 1 dX13_heats_89 rfl rfl ?_
      refine x_get (v := .ref (xqa (xXE X).2.2 203)) C 32 cls_X13 at_X13 (by decide) wd1534 rfl (xV_r (rt_X13_changed  _) rfl) dX13_heats_90 ?_
      refine x_iload_n C 4 dX13_heats_93 rfl rfl ?_
      refine x_aload_n C 1 dX13_heats_94 rfl rfl ?_
      refine x_get (v := iV (s8 184 34)) C 34 cls_X13 at_X13 (by decide) wd1536 rfl rfl dX13_heats_95 ?_
      refine x_iload C 0 dX13_heats_98 rfl ?_
      refine x_iadd C dX13_heats_100 ?_
      refine x_iast C at_X13_changed rfl dX13_heats_101 (fun _ => ?_)
      refine x_letS (fun s9 => ?_)
      refine x_aload_n C 1 dX13_heats_102 rfl rfl ?_
      refine x_get (v := .ref (xqa (xXE X).2.2 204)) C 33 cls_X13 at_X13 (by decide) wd1535 rfl (xV_r (rt_X13_changes  _) rfl) dX13_heats_103 ?_
      refine x_iload_n C 4 dX13_heats_106 rfl rfl ?_
      refine x_aload_n C 1 dX13_heats_107 rfl rfl ?_
      refine x_get (v := .ref (xqa (xXE X).2.2 204)) C 33 cls_X13 at_X13 (by decide) wd1535 rfl (xV_r (rt_X13_changes  _) rfl) dX13_heats_108 ?_
      refine x_iload_n C 4 dX13_heats_111 rfl rfl ?_
      refine x_iald C at_X13_changes rfl dX13_heats_112 (fun _ => ?_)
      refine x_iload C 0 dX13_heats_113 rfl ?_
      refine x_iadd C dX13_heats_115 ?_
      refine x_iast C at_X13_changes rfl dX13_heats_116 (fun _ => ?_)
      refine x_letS (fun s10 => ?_)
      exact x_vretQ C (hQ _) rfl dX13_heats_117
    · exact x_vretQ C (hQ _) rfl dX13_heats_72
  · refine x_aload_n C 0 dX13_heats_13 rfl rfl ?_
    refine x_aload_n C 1 dX13_heats_14 rfl rfl ?_
    refine x_iload C 4 dX13_heats_15 rfl ?_
    refine x_callV C (ct_X13_isUsable _ _ k1 t2.2 σ hk1) mt_X13_isUsable vr_X13_isUsable wd1969 cls_X13 at_X13 rfl ⟨rfl, rfl, Nat.le_of_ble_eq_true rfl, Nat.le_of_ble_eq_true rfl⟩ rfl (by decide) dX13_heats_17 (kI (fun v11 => ?_))
    refine x_join (fun J => ∀ q15 : Int, WO X Qf WW σ 61 [(0, .ref (xqa (xXE X).2.2 184)), (1, .ref (xqa (xXE X).2.2 k1)), (2, iV p2), (3, iV q15), (4, iV t2.2)] [] (J q15)) ?_ ?_
    · intro q15
      refine x_inc C 4 (f := _) dX13_heats_61 rfl (by decide) (1) rfl (fun v16 => ?_)
      refine x_reL (L' := [(4, _), (0, _), (1, _), (2, _), (3, _)]) rfl ?_
      refine x_goto C 5 dX13_heats_64 rfl ?_
      refine x_pick [1, 2, 3, 4, 0] rfl ?_
      exact hr4 (q15, v16)
    · intro J13 hJ14
      refine x_if_eq C 61 rfl dX13_heats_20 rfl (fun c17 => x_op c17 ?_) (fun c17 => x_on c17 ?_)
      · refine x_pick [0, 1, 2, 3, 4] rfl ?_
        exact hJ14 t2.1
      · refine x_aload_n C 0 dX13_heats_23 rfl rfl ?_
        refine x_iload C 4 dX13_heats_24 rfl ?_
        refine x_callV C (ct_X13_onShelves _ _ n t2.2 σ) mt_X13_onShelves vr_X13_onShelves wd1973 cls_X13 at_X13 rfl ⟨rfl, rfl, Nat.le_of_ble_eq_true rfl, Nat.le_of_ble_eq_true rfl⟩ rfl (by decide) dX13_heats_26 (kI (fun v18 => ?_))
        refine x_if_le C 35 rfl dX13_heats_29 rfl (fun c19 => x_op c19 ?_) (fun c19 => x_on c19 ?_)
        · refine x_iload_n C 3 dX13_heats_35 rfl rfl ?_
          refine x_iconst C (-1) dX13_heats_36 rfl ?_
          refine x_join (fun J => ∀ q23 : Unit, WO X Qf WW σ 58 [(0, .ref (xqa (xXE X).2.2 184)), (1, .ref (xqa (xXE X).2.2 k1)), (2, iV p2), (4, iV t2.2)] [] (J q23)) ?_ ?_
          · intro q23
            refine x_iload C 3 dX13_heats_58 rfl ?_
            refine x_istore_n (L' := [(3, _), (0, _), (1, _), (2, _), (4, _)]) C dX13_heats_60 rfl (by decide) rfl ?_
            refine x_pick [1, 2, 3, 0, 4] rfl ?_
            exact hJ14 t2.2
          · intro J21 hJ22
            refine x_icmp_eq C 58 rfl (zIl _ rfl) dX13_heats_37 rfl (fun c24 => x_op c24 ?_) (fun c24 => x_on c24 ?_)
            · refine x_pick [0, 1, 2, 4] rfl ?_
              exact hJ22 ()
            · refine x_aload_n C 0 dX13_heats_40 rfl rfl ?_
              refine x_aload_n C 1 dX13_heats_41 rfl rfl ?_
              refine x_iload C 4 dX13_heats_42 rfl ?_
              refine x_iload_n C 2 dX13_heats_44 rfl rfl ?_
              refine x_callV C (ct_X13_changeMinutes _ _ k1 t2.2 p2 σ hk1) mt_X13_changeMinutes vr_X13_changeMinutes wd1985 cls_X13 at_X13 rfl ⟨rfl, rfl, Nat.le_of_ble_eq_true rfl, Nat.le_of_ble_eq_true rfl⟩ rfl (by decide) dX13_heats_45 (kI (fun v25 => ?_))
              refine x_aload_n C 0 dX13_heats_48 rfl rfl ?_
              refine x_aload_n C 1 dX13_heats_49 rfl rfl ?_
              refine x_iload_n C 3 dX13_heats_50 rfl rfl ?_
              refine x_iload_n C 2 dX13_heats_51 rfl rfl ?_
              refine x_callV C (ct_X13_changeMinutes _ _ k1 t2.1 p2 σ hk1) mt_X13_changeMinutes vr_X13_changeMinutes wd1985 cls_X13 at_X13 rfl ⟨rfl, rfl, Nat.le_of_ble_eq_true rfl, Nat.le_of_ble_eq_true rfl⟩ rfl (Nat.le_of_ble_eq_true rfl) dX13_heats_52 (kI (fun v26 => ?_))
              refine x_icmp_ge C 61 rfl rfl dX13_heats_55 rfl (fun c27 => x_op c27 ?_) (fun c27 => x_on c27 ?_)
              · refine x_pick [0, 1, 2, 3, 4] rfl ?_
                exact hJ14 t2.1
              · refine x_pick [0, 1, 2, 4] rfl ?_
                exact hJ22 ()
        · refine x_goto C 61 dX13_heats_32 rfl ?_
          refine x_pick [0, 1, 2, 3, 4] rfl ?_
          exact hJ14 t2.1
theorem ct_X13_heats (l : Launch) (E : xE) (n : Nat) (k1 : Nat) (p2 : Int) (σ : xS) (hk1 : xAt WW k1 0 289)  : xMet l E yX13_heats cX13_heats 5 none { frames := 2, cells := 0, slots := 0, locals := 46 } [.ref (xqa E.2.2 184), .ref (xqa E.2.2 k1), iV p2] WW WW σ (xrV (m_X13_heats n k1 p2 σ)) := by
  refine xMet.of0 (by decide) (Nat.le_of_ble_eq_true rfl) rfl rfl (fun X hE C => ?_)
  subst hE
  exact xMap (fun q => (none, q)) (wk_X13_heats C (fun _ => rfl) hk1)
theorem mt_X13_heats : xMth yX13_heats cX13_heats 5 none 2 := ⟨wd1984, wd164, ⟨by decide, by decide, rfl⟩⟩
theorem vr_X13_heats : xVir yX13_heats := ⟨wd1983, wd109⟩
def m_X13_bakes (n : Nat) (k1 : Nat) (σ : xS) : Option xS :=
  loopF (fun rec2 (t1 : Int × Int × xS) => if (zI (t1.2.2 184 29)) ≤ (zI t1.2.1) then xlet (xput t1.2.2 184 29 t1.1) fun s5 => some s5 else xck (zI t1.2.1) 60 <| xlet (t1.2.2 200 (zI t1.2.1).toNat) fun v6 => xck (zI v6) 60 <| (m_X13_dough k1 (t1.2.2 192 (zI v6).toNat) 6 t1.2.2).bind fun v7 => (m_X13_ovenFor n k1 v7 t1.2.2).bind fun v8 => xj (fun (q12 : Int × xS) => xlet (t1.2.1 + 1) fun v13 => rec2 (q12.1, v13, q12.2)) fun J10 => if (zI v8) = (-1) then (m_X13_isOneChanging n k1 v7 t1.2.2).bind fun v15 => xj (fun (q19 : xS) => xck (zI t1.1) 60 <| xlet (xput q19 200 (zI t1.1).toNat v6) fun s20 => xlet (t1.1 + 1) fun v21 => J10 (v21, s20)) fun J17 => if (zI v15) = 0 then (m_X13_heats n k1 v7 t1.2.2).bind fun s23 => J17 s23 else J17 t1.2.2 else (m_X13_reaches v6 4 t1.2.2).bind fun s24 => xck (zI v6) 60 <| xlet (xput s24 193 (zI v6).toNat 7) fun s25 => xck (zI v6) 60 <| xlet (xput s25 196 (zI v6).toNat v8) fun s26 => xck (zI v6) 60 <| (m_X13_dough k1 (s26 192 (zI v6).toNat) 5 s26).bind fun v27 => xck (zI v6) 60 <| xlet (xput s26 194 (zI v6).toNat ((s26 184 34) + v27)) fun s28 => xck (zI v6) 60 <| xlet (xput s28 184 38 (((s28 184 38) + (s28 184 34)) - (s28 197 (zI v6).toNat))) fun s29 => J10 (t1.1, s29)) n (0, 0, σ)
set_option maxHeartbeats 4000000 in
set_option maxRecDepth 100000 in
theorem wk_X13_bakes {X : xX} {Qf : xS → State → Prop} {n : Nat} {k1 : Nat} {σ : xS} (C : xCx X cX13_bakes "BakeryNightModel" none { frames := 3, cells := 0, slots := 0, locals := 70 } 7) (hQ : ∀ τ, Qf τ = xQf X WW (none, τ)) (hk1 : xAt WW k1 0 289) : WO X Qf WW σ 0 [(0, .ref (xqa (xXE X).2.2 184)), (1, .ref (xqa (xXE X).2.2 k1))] [] (m_X13_bakes n k1 σ) := by
  unfold m_X13_bakes
  refine x_iconst C (0) dX13_bakes_0 rfl ?_
  refine x_istore_n (L' := [(2, _), (0, _), (1, _)]) C dX13_bakes_1 rfl (by decide) rfl ?_
  refine x_iconst C (0) dX13_bakes_2 rfl ?_
  refine x_istore_n (L' := [(3, _), (2, _), (0, _), (1, _)]) C dX13_bakes_3 rfl (by decide) rfl ?_
  refine x_pick [2, 3, 1, 0] rfl ?_
  refine x_loop (fun t1 : Int × Int × xS => t1.2.2) (fun t1 : Int × Int × xS => [(0, .ref (xqa (xXE X).2.2 184)), (1, .ref (xqa (xXE X).2.2 k1)), (2, iV t1.1), (3, iV t1.2.1)]) (fun rec2 hr3 t1 => ?_) n (0, 0, σ)
  refine x_iload_n C 3 dX13_bakes_4 rfl rfl ?_
  refine x_aload_n C 0 dX13_bakes_5 rfl rfl ?_
  refine x_get (v := iV (t1.2.2 184 29)) C 29 cls_X13 at_X13 (by decide) wd1531 rfl rfl dX13_bakes_6 ?_
  refine x_icmp_ge C 160 rfl rfl dX13_bakes_9 rfl (fun c4 => x_op c4 ?_) (fun c4 => x_on c4 ?_)
  · refine x_aload_n C 0 dX13_bakes_160 rfl rfl ?_
    refine x_iload_n C 2 dX13_bakes_161 rfl rfl ?_
    refine x_put C 29 t1.1 cls_X13 at_X13 (by decide) wd1531 rfl rfl rfl rfl (xV_pI rfl) dX13_bakes_162 ?_
    refine x_letS (fun s5 => ?_)
    exact x_vretQ C (hQ _) rfl dX13_bakes_165
  · refine x_aload_n C 0 dX13_bakes_12 rfl rfl ?_
    refine x_get (v := .ref (xqa (xXE X).2.2 200)) C 28 cls_X13 at_X13 (by decide) wd1530 rfl (xV_r (rt_X13_proofed  _) rfl) dX13_bakes_13 ?_
    refine x_iload_n C 3 dX13_bakes_16 rfl rfl ?_
    refine x_iald C at_X13_proofed rfl dX13_bakes_17 (fun _ => ?_)
    refine x_letI (fun v6 => ?_)
    refine x_istore (L' := [(4, _), (0, _), (1, _), (2, _), (3, _)]) C dX13_bakes_18 (by decide) rfl ?_
    refine x_aload_n C 1 dX13_bakes_20 rfl rfl ?_
    refine x_aload_n C 2 dX13_bakes_21 rfl rfl ?_
    refine x_aload_n C 1 dX13_bakes_22 rfl rfl ?_
    refine x_get (v := .ref (xqa (xXE X).2.2 192)) C 18 cls_X13 at_X13 (by decide) wd1520 rfl (xV_r (rt_X13_batchDough  _) rfl) dX13_bakes_23 ?_
    refine x_iload C 0 dX13_bakes_26 rfl ?_
    refine x_iald C at_X13_batchDough rfl dX13_bakes_28 (fun _ => ?_)
    refine x_bipush C (6) dX13_bakes_29 rfl ?_
    refine x_callV C (ct_X13_dough _ _ k1 (t1.2.2 192 (zI v6).toNat) 6 t1.2.2 hk1) mt_X13_dough vr_X13_dough wd1895 cls_X13 at_X13 rfl ⟨rfl, rfl, Nat.le_of_ble_eq_true rfl, Nat.le_of_ble_eq_true rfl⟩ rfl (by decide) dX13_bakes_31 (kI (fun v7 => ?_))
    refine x_istore (L' := [(5, _), (4, _), (0, _), (1, _), (2, _), (3, _)]) C dX13_bakes_34 (by decide) rfl ?_
    refine x_aload_n C 2 dX13_bakes_36 rfl rfl ?_
    refine x_aload_n C 3 dX13_bakes_37 rfl rfl ?_
    refine x_iload C 0 dX13_bakes_38 rfl ?_
    refine x_callV C (ct_X13_ovenFor _ _ n k1 v7 t1.2.2 hk1) mt_X13_ovenFor vr_X13_ovenFor wd1965 cls_X13 at_X13 rfl ⟨rfl, rfl, Nat.le_of_ble_eq_true rfl, Nat.le_of_ble_eq_true rfl⟩ rfl (by decide) dX13_bakes_40 (kI (fun v8 => ?_))
    refine x_istore (L' := [(6, _), (5, _), (4, _), (0, _), (1, _), (2, _), (3, _)]) C dX13_bakes_43 (by decide) rfl ?_
    refine x_iload C 0 dX13_bakes_45 rfl ?_
    refine x_iconst C (-1) dX13_bakes_47 rfl ?_
    refine x_join (fun J => ∀ q12 : Int × xS, WO X Qf WW q12.2 154 [(0, .ref (xqa (xXE X).2.2 184)), (1, .ref (xqa (xXE X).2.2 k1)), (2, iV q12.1), (3, iV t1.2.1)] [] (J q12)) ?_ ?_
    · intro q12
      refine x_inc C 3 (f := _) dX13_bakes_154 rfl (by decide) (1) rfl (fun v13 => ?_)
      refine x_reL (L' := [(3, _), (0, _), (1, _), (2, _)]) rfl ?_
      refine x_goto C 4 dX13_bakes_157 rfl ?_
      refine x_pick [1, 2, 3, 0] rfl ?_
      exact hr3 (q12.1, v13, q12.2)
    · intro J10 hJ11
      refine x_icmp_eq C 125 rfl (zIl _ rfl) dX13_bakes_48 rfl (fun c14 => x_op c14 ?_) (fun c14 => x_on c14 ?_)
      · refine x_aload_n C 3 dX13_bakes_125 rfl rfl ?_
        refine x_aload_n C 4 dX13_bakes_126 rfl rfl ?_
        refine x_iload C 1 dX13_bakes_127 rfl ?_
        refine x_callV C (ct_X13_isOneChanging _ _ n k1 v7 t1.2.2 hk1) mt_X13_isOneChanging vr_X13_isOneChanging wd1977 cls_X13 at_X13 rfl ⟨rfl, rfl, Nat.le_of_ble_eq_true rfl, Nat.le_of_ble_eq_true rfl⟩ rfl (by decide) dX13_bakes_129 (kI (fun v15 => ?_))
        refine x_join (fun J => ∀ q19 : xS, WO X Qf WW q19 142 [(0, .ref (xqa (xXE X).2.2 184)), (1, .ref (xqa (xXE X).2.2 k1)), (2, iV t1.1), (3, iV t1.2.1), (4, iV v6)] [] (J q19)) ?_ ?_
        · intro q19
          refine x_aload_n C 0 dX13_bakes_142 rfl rfl ?_
          refine x_get (v := .ref (xqa (xXE X).2.2 200)) C 28 cls_X13 at_X13 (by decide) wd1530 rfl (xV_r (rt_X13_proofed  _) rfl) dX13_bakes_143 ?_
          refine x_iload_n C 2 dX13_bakes_146 rfl rfl ?_
          refine x_iload C 4 dX13_bakes_147 rfl ?_
          refine x_iast C at_X13_proofed rfl dX13_bakes_149 (fun _ => ?_)
          refine x_letS (fun s20 => ?_)
          refine x_iload_n C 2 dX13_bakes_150 rfl rfl ?_
          refine x_iconst C (1) dX13_bakes_151 rfl ?_
          refine x_iadd C dX13_bakes_152 ?_
          refine x_letI (fun v21 => ?_)
          refine x_istore_n (L' := [(2, _), (0, _), (1, _), (3, _), (4, _)]) C dX13_bakes_153 rfl (by decide) rfl ?_
          refine x_pick [1, 2, 0, 3] rfl ?_
          exact hJ11 (v21, s20)
        · intro J17 hJ18
          refine x_if_ne C 142 rfl dX13_bakes_132 rfl (fun c22 => x_on c22 ?_) (fun c22 => x_op c22 ?_)
          · refine x_pick [3, 4, 5, 6, 2] rfl ?_
            exact hJ18 t1.2.2
          · refine x_aload_n C 3 dX13_bakes_135 rfl rfl ?_
            refine x_aload_n C 4 dX13_bakes_136 rfl rfl ?_
            refine x_iload C 1 dX13_bakes_137 rfl ?_
            refine x_callV C (ct_X13_heats _ _ n k1 v7 t1.2.2 hk1) mt_X13_heats vr_X13_heats wd1981 cls_X13 at_X13 rfl ⟨rfl, rfl, Nat.le_of_ble_eq_true rfl, Nat.le_of_ble_eq_true rfl⟩ rfl (by decide) dX13_bakes_139 (kV (fun s23 => ?_))
            refine x_pick [3, 4, 5, 6, 2] rfl ?_
            exact hJ18 s23
      · refine x_aload_n C 3 dX13_bakes_51 rfl rfl ?_
        refine x_iload C 2 dX13_bakes_52 rfl ?_
        refine x_iconst C (4) dX13_bakes_54 rfl ?_
        refine x_callV C (ct_X13_reaches _ _ v6 4 t1.2.2) mt_X13_reaches vr_X13_reaches wd1953 cls_X13 at_X13 rfl ⟨rfl, rfl, Nat.le_of_ble_eq_true rfl, Nat.le_of_ble_eq_true rfl⟩ rfl (by decide) dX13_bakes_55 (kV (fun s24 => ?_))
        refine x_aload_n C 3 dX13_bakes_58 rfl rfl ?_
        refine x_get (v := .ref (xqa (xXE X).2.2 193)) C 20 cls_X13 at_X13 (by decide) wd1522 rfl (xV_r (rt_X13_state  _) rfl) dX13_bakes_59 ?_
        refine x_iload C 2 dX13_bakes_62 rfl ?_
        refine x_bipush C (7) dX13_bakes_64 rfl ?_
        refine x_iast C at_X13_state rfl dX13_bakes_66 (fun _ => ?_)
        refine x_letS (fun s25 => ?_)
        refine x_aload_n C 3 dX13_bakes_67 rfl rfl ?_
        refine x_get (v := .ref (xqa (xXE X).2.2 196)) C 23 cls_X13 at_X13 (by decide) wd1525 rfl (xV_r (rt_X13_inOven  _) rfl) dX13_bakes_68 ?_
        refine x_iload C 2 dX13_bakes_71 rfl ?_
        refine x_iload C 0 dX13_bakes_73 rfl ?_
        refine x_iast C at_X13_inOven rfl dX13_bakes_75 (fun _ => ?_)
        refine x_letS (fun s26 => ?_)
        refine x_aload_n C 3 dX13_bakes_76 rfl rfl ?_
        refine x_get (v := .ref (xqa (xXE X).2.2 194)) C 21 cls_X13 at_X13 (by decide) wd1523 rfl (xV_r (rt_X13_until  _) rfl) dX13_bakes_77 ?_
        refine x_iload C 2 dX13_bakes_80 rfl ?_
        refine x_aload_n C 3 dX13_bakes_82 rfl rfl ?_
        refine x_get (v := iV (s26 184 34)) C 34 cls_X13 at_X13 (by decide) wd1536 rfl rfl dX13_bakes_83 ?_
        refine x_aload_n C 3 dX13_bakes_86 rfl rfl ?_
        refine x_aload_n C 4 dX13_bakes_87 rfl rfl ?_
        refine x_aload_n C 3 dX13_bakes_88 rfl rfl ?_
        refine x_get (v := .ref (xqa (xXE X).2.2 192)) C 18 cls_X13 at_X13 (by decide) wd1520 rfl (xV_r (rt_X13_batchDough  _) rfl) dX13_bakes_89 ?_
        refine x_iload C 2 dX13_bakes_92 rfl ?_
        refine x_iald C at_X13_batchDough rfl dX13_bakes_94 (fun _ => ?_)
        refine x_iconst C (5) dX13_bakes_95 rfl ?_
        refine x_callV C (ct_X13_dough _ _ k1 (s26 192 (zI v6).toNat) 5 s26 hk1) mt_X13_dough vr_X13_dough wd1895 cls_X13 at_X13 rfl ⟨rfl, rfl, Nat.le_of_ble_eq_true rfl, Nat.le_of_ble_eq_true rfl⟩ rfl (Nat.le_of_ble_eq_true rfl) dX13_bakes_96 (kI (fun v27 => ?_))
        refine x_iadd C dX13_bakes_99 ?_
        refine x_iast C at_X13_until rfl dX13_bakes_100 (fun _ => ?_)
        refine x_letS (fun s28 => ?_)
        refine x_aload_n C 3 dX13_bakes_101 rfl rfl ?_
        refine x_aload_n C 3 dX13_bakes_102 rfl rfl ?_
        refine x_get (v := iV (s28 184 38)) C 38 cls_X13 at_X13 (by decide) wd1540 rfl rfl dX13_bakes_103 ?_
        refine x_aload_n C 3 dX13_bakes_106 rfl rfl ?_
        refine x_get (v := iV (s28 184 34)) C 34 cls_X13 at_X13 (by decide) wd1536 rfl rfl dX13_bakes_107 ?_
        refine x_iadd C dX13_bakes_110 ?_
        refine x_aload_n C 3 dX13_bakes_111 rfl rfl ?_
        refine x_get (v := .ref (xqa (xXE X).2.2 197)) C 24 cls_X13 at_X13 (by decide) wd1526 rfl (xV_r (rt_X13_proofedAt  _) rfl) dX13_bakes_112 ?_
        refine x_iload C 2 dX13_bakes_115 rfl ?_
        refine x_iald C at_X13_proofedAt rfl dX13_bakes_117 (fun _ => ?_)
        refine x_isub C dX13_bakes_118 ?_
        refine x_put C 38 (((s28 184 38) + (s28 184 34)) - (s28 197 (zI v6).toNat)) cls_X13 at_X13 (by decide) wd1540 rfl rfl rfl rfl (xV_pI rfl) dX13_bakes_119 ?_
        refine x_letS (fun s29 => ?_)
        refine x_goto C 154 dX13_bakes_122 rfl ?_
        refine x_pick [3, 4, 5, 6] rfl ?_
        exact hJ11 (t1.1, s29)
theorem ct_X13_bakes (l : Launch) (E : xE) (n : Nat) (k1 : Nat) (σ : xS) (hk1 : xAt WW k1 0 289)  : xMet l E yX13_bakes cX13_bakes 7 none { frames := 3, cells := 0, slots := 0, locals := 70 } [.ref (xqa E.2.2 184), .ref (xqa E.2.2 k1)] WW WW σ (xrV (m_X13_bakes n k1 σ)) := by
  refine xMet.of0 (by decide) (Nat.le_of_ble_eq_true rfl) rfl rfl (fun X hE C => ?_)
  subst hE
  exact xMap (fun q => (none, q)) (wk_X13_bakes C (fun _ => rfl) hk1)
theorem mt_X13_bakes : xMth yX13_bakes cX13_bakes 7 none 1 := ⟨wd1964, wd164, ⟨by decide, by decide, rfl⟩⟩
theorem vr_X13_bakes : xVir yX13_bakes := ⟨wd1963, wd104⟩
def m_X13_shapes (n : Nat) (k1 : Nat) (σ : xS) : Option xS :=
  xck 3 289 <| (m_X13_stateMany n 4 σ).bind fun v1 => xlet ((σ k1 (3 : Int).toNat) - v1) fun v2 => xlet (m_X13_lesser v2 (σ 184 27)) fun v3 => loopF (fun rec5 (t4 : Int × xS) => if (zI v3) ≤ (zI t4.1) then loopF (fun rec9 (t8 : Int × xS) => if (zI (t8.2 184 27)) ≤ (zI t8.1) then xlet (xput t8.2 184 27 ((t8.2 184 27) - v3)) fun s12 => some s12 else xck (zI t8.1) 60 <| xck (zI (t8.1 - v3)) 60 <| xlet (xput t8.2 199 (zI (t8.1 - v3)).toNat (t8.2 199 (zI t8.1).toNat)) fun s13 => xlet (t8.1 + 1) fun v14 => rec9 (v14, s13)) n (v3, t4.2) else xck (zI t4.1) 60 <| xlet (t4.2 199 (zI t4.1).toNat) fun v15 => (m_X13_reaches v15 2 t4.2).bind fun s16 => xck (zI v15) 60 <| xlet (xput s16 193 (zI v15).toNat 4) fun s17 => xck (zI v15) 60 <| (m_X13_dough k1 (s17 192 (zI v15).toNat) 2 s17).bind fun v18 => xck (zI v15) 60 <| xlet (xput s17 194 (zI v15).toNat ((s17 184 34) + v18)) fun s19 => xck (zI v15) 60 <| xlet (xput s19 184 37 (((s19 184 37) + (s19 184 34)) - (s19 198 (zI v15).toNat))) fun s20 => xlet (t4.1 + 1) fun v21 => rec5 (v21, s20)) n (0, σ)
set_option maxHeartbeats 4000000 in
set_option maxRecDepth 100000 in
theorem wk_X13_shapes {X : xX} {Qf : xS → State → Prop} {n : Nat} {k1 : Nat} {σ : xS} (C : xCx X cX13_shapes "BakeryNightModel" none { frames := 1, cells := 0, slots := 0, locals := 23 } 6) (hQ : ∀ τ, Qf τ = xQf X WW (none, τ)) (hk1 : xAt WW k1 0 289) : WO X Qf WW σ 0 [(0, .ref (xqa (xXE X).2.2 184)), (1, .ref (xqa (xXE X).2.2 k1))] [] (m_X13_shapes n k1 σ) := by
  unfold m_X13_shapes
  refine x_aload_n C 1 dX13_shapes_0 rfl rfl ?_
  refine x_iconst C (3) dX13_shapes_1 rfl ?_
  refine x_iald C hk1 (zIl _ rfl) dX13_shapes_2 (fun _ => ?_)
  refine x_aload_n C 0 dX13_shapes_3 rfl rfl ?_
  refine x_iconst C (4) dX13_shapes_4 rfl ?_
  refine x_callV C (ct_X13_stateMany _ _ n 4 σ) mt_X13_stateMany vr_X13_stateMany wd1941 cls_X13 at_X13 rfl ⟨rfl, rfl, Nat.le_of_ble_eq_true rfl, Nat.le_of_ble_eq_true rfl⟩ rfl (Nat.le_of_ble_eq_true rfl) dX13_shapes_5 (kI (fun v1 => ?_))
  refine x_isub C dX13_shapes_8 ?_
  refine x_letI (fun v2 => ?_)
  refine x_istore_n (L' := [(2, _), (0, _), (1, _)]) C dX13_shapes_9 rfl (by decide) rfl ?_
  refine x_aload_n C 1 dX13_shapes_10 rfl rfl ?_
  refine x_iload_n C 0 dX13_shapes_11 rfl rfl ?_
  refine x_aload_n C 1 dX13_shapes_12 rfl rfl ?_
  refine x_get (v := iV (σ 184 27)) C 27 cls_X13 at_X13 (by decide) wd1529 rfl rfl dX13_shapes_13 ?_
  refine x_callV C (ct_X13_lesser _ _ v2 (σ 184 27) σ) mt_X13_lesser vr_X13_lesser wd1933 cls_X13 at_X13 rfl ⟨rfl, rfl, Nat.le_of_ble_eq_true rfl, Nat.le_of_ble_eq_true rfl⟩ rfl (by decide) dX13_shapes_16 (kP ?_)
  refine x_letI (fun v3 => ?_)
  refine x_istore_n (L' := [(3, _), (2, _), (0, _), (1, _)]) C dX13_shapes_19 rfl (by decide) rfl ?_
  refine x_iconst C (0) dX13_shapes_20 rfl ?_
  refine x_istore (L' := [(4, _), (3, _), (2, _), (0, _), (1, _)]) C dX13_shapes_21 (by decide) rfl ?_
  refine x_pick [3, 4, 1, 0] rfl ?_
  refine x_loop (fun t4 : Int × xS => t4.2) (fun t4 : Int × xS => [(0, .ref (xqa (xXE X).2.2 184)), (1, .ref (xqa (xXE X).2.2 k1)), (3, iV v3), (4, iV t4.1)]) (fun rec5 hr6 t4 => ?_) n (0, σ)
  refine x_iload C 3 dX13_shapes_23 rfl ?_
  refine x_iload_n C 2 dX13_shapes_25 rfl rfl ?_
  refine x_icmp_ge C 105 rfl rfl dX13_shapes_26 rfl (fun c7 => x_op c7 ?_) (fun c7 => x_on c7 ?_)
  · refine x_iload_n C 2 dX13_shapes_105 rfl rfl ?_
    refine x_istore (L' := [(4, _), (0, _), (1, _), (3, _)]) C dX13_shapes_106 (by decide) rfl ?_
    refine x_pick [1, 3, 0] rfl ?_
    refine x_loop (fun t8 : Int × xS => t8.2) (fun t8 : Int × xS => [(0, .ref (xqa (xXE X).2.2 184)), (3, iV v3), (4, iV t8.1)]) (fun rec9 hr10 t8 => ?_) n (v3, t4.2)
    refine x_iload C 2 dX13_shapes_108 rfl ?_
    refine x_aload_n C 0 dX13_shapes_110 rfl rfl ?_
    refine x_get (v := iV (t8.2 184 27)) C 27 cls_X13 at_X13 (by decide) wd1529 rfl rfl dX13_shapes_111 ?_
    refine x_icmp_ge C 139 rfl rfl dX13_shapes_114 rfl (fun c11 => x_op c11 ?_) (fun c11 => x_on c11 ?_)
    · refine x_aload_n C 0 dX13_shapes_139 rfl rfl ?_
      refine x_aload_n C 0 dX13_shapes_140 rfl rfl ?_
      refine x_get (v := iV (t8.2 184 27)) C 27 cls_X13 at_X13 (by decide) wd1529 rfl rfl dX13_shapes_141 ?_
      refine x_iload_n C 1 dX13_shapes_144 rfl rfl ?_
      refine x_isub C dX13_shapes_145 ?_
      refine x_put C 27 ((t8.2 184 27) - v3) cls_X13 at_X13 (by decide) wd1529 rfl rfl rfl rfl (xV_pI rfl) dX13_shapes_146 ?_
      refine x_letS (fun s12 => ?_)
      exact x_vretQ C (hQ _) rfl dX13_shapes_149
    · refine x_aload_n C 0 dX13_shapes_117 rfl rfl ?_
      refine x_get (v := .ref (xqa (xXE X).2.2 199)) C 26 cls_X13 at_X13 (by decide) wd1528 rfl (xV_r (rt_X13_risen  _) rfl) dX13_shapes_118 ?_
      refine x_iload C 2 dX13_shapes_121 rfl ?_
      refine x_iload_n C 1 dX13_shapes_123 rfl rfl ?_
      refine x_isub C dX13_shapes_124 ?_
      refine x_aload_n C 0 dX13_shapes_125 rfl rfl ?_
      refine x_get (v := .ref (xqa (xXE X).2.2 199)) C 26 cls_X13 at_X13 (by decide) wd1528 rfl (xV_r (rt_X13_risen  _) rfl) dX13_shapes_126 ?_
      refine x_iload C 2 dX13_shapes_129 rfl ?_
      refine x_iald C at_X13_risen rfl dX13_shapes_131 (fun _ => ?_)
      refine x_iast C at_X13_risen rfl dX13_shapes_132 (fun _ => ?_)
      refine x_letS (fun s13 => ?_)
      refine x_inc C 2 (f := _) dX13_shapes_133 rfl (by decide) (1) rfl (fun v14 => ?_)
      refine x_reL (L' := [(4, _), (0, _), (3, _)]) rfl ?_
      refine x_goto C 108 dX13_shapes_136 rfl ?_
      refine x_pick [1, 2, 0] rfl ?_
      exact hr10 (v14, s13)
  · refine x_aload_n C 0 dX13_shapes_29 rfl rfl ?_
    refine x_get (v := .ref (xqa (xXE X).2.2 199)) C 26 cls_X13 at_X13 (by decide) wd1528 rfl (xV_r (rt_X13_risen  _) rfl) dX13_shapes_30 ?_
    refine x_iload C 3 dX13_shapes_33 rfl ?_
    refine x_iald C at_X13_risen rfl dX13_shapes_35 (fun _ => ?_)
    refine x_letI (fun v15 => ?_)
    refine x_istore (L' := [(5, _), (0, _), (1, _), (3, _), (4, _)]) C dX13_shapes_36 (by decide) rfl ?_
    refine x_aload_n C 1 dX13_shapes_38 rfl rfl ?_
    refine x_iload C 0 dX13_shapes_39 rfl ?_
    refine x_iconst C (2) dX13_shapes_41 rfl ?_
    refine x_callV C (ct_X13_reaches _ _ v15 2 t4.2) mt_X13_reaches vr_X13_reaches wd1953 cls_X13 at_X13 rfl ⟨rfl, rfl, Nat.le_of_ble_eq_true rfl, Nat.le_of_ble_eq_true rfl⟩ rfl (by decide) dX13_shapes_42 (kV (fun s16 => ?_))
    refine x_aload_n C 1 dX13_shapes_45 rfl rfl ?_
    refine x_get (v := .ref (xqa (xXE X).2.2 193)) C 20 cls_X13 at_X13 (by decide) wd1522 rfl (xV_r (rt_X13_state  _) rfl) dX13_shapes_46 ?_
    refine x_iload C 0 dX13_shapes_49 rfl ?_
    refine x_iconst C (4) dX13_shapes_51 rfl ?_
    refine x_iast C at_X13_state rfl dX13_shapes_52 (fun _ => ?_)
    refine x_letS (fun s17 => ?_)
    refine x_aload_n C 1 dX13_shapes_53 rfl rfl ?_
    refine x_get (v := .ref (xqa (xXE X).2.2 194)) C 21 cls_X13 at_X13 (by decide) wd1523 rfl (xV_r (rt_X13_until  _) rfl) dX13_shapes_54 ?_
    refine x_iload C 0 dX13_shapes_57 rfl ?_
    refine x_aload_n C 1 dX13_shapes_59 rfl rfl ?_
    refine x_get (v := iV (s17 184 34)) C 34 cls_X13 at_X13 (by decide) wd1536 rfl rfl dX13_shapes_60 ?_
    refine x_aload_n C 1 dX13_shapes_63 rfl rfl ?_
    refine x_aload_n C 2 dX13_shapes_64 rfl rfl ?_
    refine x_aload_n C 1 dX13_shapes_65 rfl rfl ?_
    refine x_get (v := .ref (xqa (xXE X).2.2 192)) C 18 cls_X13 at_X13 (by decide) wd1520 rfl (xV_r (rt_X13_batchDough  _) rfl) dX13_shapes_66 ?_
    refine x_iload C 0 dX13_shapes_69 rfl ?_
    refine x_iald C at_X13_batchDough rfl dX13_shapes_71 (fun _ => ?_)
    refine x_iconst C (2) dX13_shapes_72 rfl ?_
    refine x_callV C (ct_X13_dough _ _ k1 (s17 192 (zI v15).toNat) 2 s17 hk1) mt_X13_dough vr_X13_dough wd1895 cls_X13 at_X13 rfl ⟨rfl, rfl, Nat.le_of_ble_eq_true rfl, Nat.le_of_ble_eq_true rfl⟩ rfl (Nat.le_of_ble_eq_true rfl) dX13_shapes_73 (kI (fun v18 => ?_))
    refine x_iadd C dX13_shapes_76 ?_
    refine x_iast C at_X13_until rfl dX13_shapes_77 (fun _ => ?_)
    refine x_letS (fun s19 => ?_)
    refine x_aload_n C 1 dX13_shapes_78 rfl rfl ?_
    refine x_aload_n C 1 dX13_shapes_79 rfl rfl ?_
    refine x_get (v := iV (s19 184 37)) C 37 cls_X13 at_X13 (by decide) wd1539 rfl rfl dX13_shapes_80 ?_
    refine x_aload_n C 1 dX13_shapes_83 rfl rfl ?_
    refine x_get (v := iV (s19 184 34)) C 34 cls_X13 at_X13 (by decide) wd1536 rfl rfl dX13_shapes_84 ?_
    refine x_iadd C dX13_shapes_87 ?_
    refine x_aload_n C 1 dX13_shapes_88 rfl rfl ?_
    refine x_get (v := .ref (xqa (xXE X).2.2 198)) C 25 cls_X13 at_X13 (by decide) wd1527 rfl (xV_r (rt_X13_risenAt  _) rfl) dX13_shapes_89 ?_
    refine x_iload C 0 dX13_shapes_92 rfl ?_
    refine x_iald C at_X13_risenAt rfl dX13_shapes_94 (fun _ => ?_)
    refine x_isub C dX13_shapes_95 ?_
    refine x_put C 37 (((s19 184 37) + (s19 184 34)) - (s19 198 (zI v15).toNat)) cls_X13 at_X13 (by decide) wd1539 rfl rfl rfl rfl (xV_pI rfl) dX13_shapes_96 ?_
    refine x_letS (fun s20 => ?_)
    refine x_inc C 4 (f := _) dX13_shapes_99 rfl (by decide) (1) rfl (fun v21 => ?_)
    refine x_reL (L' := [(4, _), (5, _), (0, _), (1, _), (3, _)]) rfl ?_
    refine x_goto C 23 dX13_shapes_102 rfl ?_
    refine x_pick [2, 3, 4, 0] rfl ?_
    exact hr6 (v21, s20)
theorem ct_X13_shapes (l : Launch) (E : xE) (n : Nat) (k1 : Nat) (σ : xS) (hk1 : xAt WW k1 0 289)  : xMet l E yX13_shapes cX13_shapes 6 none { frames := 1, cells := 0, slots := 0, locals := 23 } [.ref (xqa E.2.2 184), .ref (xqa E.2.2 k1)] WW WW σ (xrV (m_X13_shapes n k1 σ)) := by
  refine xMet.of0 (by decide) (Nat.le_of_ble_eq_true rfl) rfl rfl (fun X hE C => ?_)
  subst hE
  exact xMap (fun q => (none, q)) (wk_X13_shapes C (fun _ => rfl) hk1)
theorem mt_X13_shapes : xMth yX13_shapes cX13_shapes 6 none 1 := ⟨wd1992, wd164, ⟨by decide, by decide, rfl⟩⟩
theorem vr_X13_shapes : xVir yX13_shapes := ⟨wd1991, wd111⟩
def m_X13_mixes (n : Nat) (k1 : Nat) (σ : xS) : Option xS :=
  xck 2 289 <| (m_X13_stateMany n 1 σ).bind fun v1 => xlet ((σ k1 (2 : Int).toNat) - v1) fun v2 => loopF (fun rec4 (t3 : Int × Int × xS) => xj (fun (q8 : Unit) => some t3.2.2) fun J6 => if (zI (t3.2.2 184 19)) ≤ (zI t3.2.1) then J6 () else if (zI t3.1) ≤ 0 then J6 () else xck (zI t3.2.1) 60 <| xj (fun (q14 : Int × xS) => xlet (t3.2.1 + 1) fun v15 => rec4 (q14.1, v15, q14.2)) fun J12 => if (zI (t3.2.2 193 (zI t3.2.1).toNat)) = 0 then (m_X13_reaches t3.2.1 0 t3.2.2).bind fun s17 => xck (zI t3.2.1) 60 <| xlet (xput s17 193 (zI t3.2.1).toNat 1) fun s18 => xck (zI t3.2.1) 60 <| (m_X13_dough k1 (s18 192 (zI t3.2.1).toNat) 0 s18).bind fun v19 => xck (zI t3.2.1) 60 <| xlet (xput s18 194 (zI t3.2.1).toNat ((s18 184 34) + v19)) fun s20 => xlet (xput s20 184 36 ((s20 184 36) + (s20 184 34))) fun s21 => xlet (t3.1 - 1) fun v22 => J12 (v22, s21) else J12 (t3.1, t3.2.2)) n (v2, 0, σ)
set_option maxHeartbeats 4000000 in
set_option maxRecDepth 100000 in
theorem wk_X13_mixes {X : xX} {Qf : xS → State → Prop} {n : Nat} {k1 : Nat} {σ : xS} (C : xCx X cX13_mixes "BakeryNightModel" none { frames := 1, cells := 0, slots := 0, locals := 23 } 4) (hQ : ∀ τ, Qf τ = xQf X WW (none, τ)) (hk1 : xAt WW k1 0 289) : WO X Qf WW σ 0 [(0, .ref (xqa (xXE X).2.2 184)), (1, .ref (xqa (xXE X).2.2 k1))] [] (m_X13_mixes n k1 σ) := by
  unfold m_X13_mixes
  refine x_aload_n C 1 dX13_mixes_0 rfl rfl ?_
  refine x_iconst C (2) dX13_mixes_1 rfl ?_
  refine x_iald C hk1 (zIl _ rfl) dX13_mixes_2 (fun _ => ?_)
  refine x_aload_n C 0 dX13_mixes_3 rfl rfl ?_
  refine x_iconst C (1) dX13_mixes_4 rfl ?_
  refine x_callV C (ct_X13_stateMany _ _ n 1 σ) mt_X13_stateMany vr_X13_stateMany wd1941 cls_X13 at_X13 rfl ⟨rfl, rfl, Nat.le_of_ble_eq_true rfl, Nat.le_of_ble_eq_true rfl⟩ rfl (Nat.le_of_ble_eq_true rfl) dX13_mixes_5 (kI (fun v1 => ?_))
  refine x_isub C dX13_mixes_8 ?_
  refine x_letI (fun v2 => ?_)
  refine x_istore_n (L' := [(2, _), (0, _), (1, _)]) C dX13_mixes_9 rfl (by decide) rfl ?_
  refine x_iconst C (0) dX13_mixes_10 rfl ?_
  refine x_istore_n (L' := [(3, _), (2, _), (0, _), (1, _)]) C dX13_mixes_11 rfl (by decide) rfl ?_
  refine x_pick [2, 3, 1, 0] rfl ?_
  refine x_loop (fun t3 : Int × Int × xS => t3.2.2) (fun t3 : Int × Int × xS => [(0, .ref (xqa (xXE X).2.2 184)), (1, .ref (xqa (xXE X).2.2 k1)), (2, iV t3.1), (3, iV t3.2.1)]) (fun rec4 hr5 t3 => ?_) n (v2, 0, σ)
  refine x_iload_n C 3 dX13_mixes_12 rfl rfl ?_
  refine x_aload_n C 0 dX13_mixes_13 rfl rfl ?_
  refine x_get (v := iV (t3.2.2 184 19)) C 19 cls_X13 at_X13 (by decide) wd1521 rfl rfl dX13_mixes_14 ?_
  refine x_join (fun J => ∀ q8 : Unit, WO X Qf WW t3.2.2 95 [] [] (J q8)) ?_ ?_
  · intro q8
    exact x_vretQ C (hQ _) rfl dX13_mixes_95
  · intro J6 hJ7
    refine x_icmp_ge C 95 rfl rfl dX13_mixes_17 rfl (fun c9 => x_op c9 ?_) (fun c9 => x_on c9 ?_)
    · refine x_pick [] rfl ?_
      exact hJ7 ()
    · refine x_iload_n C 2 dX13_mixes_20 rfl rfl ?_
      refine x_if_le C 95 rfl dX13_mixes_21 rfl (fun c10 => x_op c10 ?_) (fun c10 => x_on c10 ?_)
      · refine x_pick [] rfl ?_
        exact hJ7 ()
      · refine x_aload_n C 0 dX13_mixes_24 rfl rfl ?_
        refine x_get (v := .ref (xqa (xXE X).2.2 193)) C 20 cls_X13 at_X13 (by decide) wd1522 rfl (xV_r (rt_X13_state  _) rfl) dX13_mixes_25 ?_
        refine x_iload_n C 3 dX13_mixes_28 rfl rfl ?_
        refine x_iald C at_X13_state rfl dX13_mixes_29 (fun _ => ?_)
        refine x_join (fun J => ∀ q14 : Int × xS, WO X Qf WW q14.2 89 [(0, .ref (xqa (xXE X).2.2 184)), (1, .ref (xqa (xXE X).2.2 k1)), (2, iV q14.1), (3, iV t3.2.1)] [] (J q14)) ?_ ?_
        · intro q14
          refine x_inc C 3 (f := _) dX13_mixes_89 rfl (by decide) (1) rfl (fun v15 => ?_)
          refine x_reL (L' := [(3, _), (0, _), (1, _), (2, _)]) rfl ?_
          refine x_goto C 12 dX13_mixes_92 rfl ?_
          refine x_pick [1, 2, 3, 0] rfl ?_
          exact hr5 (q14.1, v15, q14.2)
        · intro J12 hJ13
          refine x_if_eq C 36 rfl dX13_mixes_30 rfl (fun c16 => x_op c16 ?_) (fun c16 => x_on c16 ?_)
          · refine x_aload_n C 0 dX13_mixes_36 rfl rfl ?_
            refine x_iload_n C 3 dX13_mixes_37 rfl rfl ?_
            refine x_iconst C (0) dX13_mixes_38 rfl ?_
            refine x_callV C (ct_X13_reaches _ _ t3.2.1 0 t3.2.2) mt_X13_reaches vr_X13_reaches wd1953 cls_X13 at_X13 rfl ⟨rfl, rfl, Nat.le_of_ble_eq_true rfl, Nat.le_of_ble_eq_true rfl⟩ rfl (by decide) dX13_mixes_39 (kV (fun s17 => ?_))
            refine x_aload_n C 0 dX13_mixes_42 rfl rfl ?_
            refine x_get (v := .ref (xqa (xXE X).2.2 193)) C 20 cls_X13 at_X13 (by decide) wd1522 rfl (xV_r (rt_X13_state  _) rfl) dX13_mixes_43 ?_
            refine x_iload_n C 3 dX13_mixes_46 rfl rfl ?_
            refine x_iconst C (1) dX13_mixes_47 rfl ?_
            refine x_iast C at_X13_state rfl dX13_mixes_48 (fun _ => ?_)
            refine x_letS (fun s18 => ?_)
            refine x_aload_n C 0 dX13_mixes_49 rfl rfl ?_
            refine x_get (v := .ref (xqa (xXE X).2.2 194)) C 21 cls_X13 at_X13 (by decide) wd1523 rfl (xV_r (rt_X13_until  _) rfl) dX13_mixes_50 ?_
            refine x_iload_n C 3 dX13_mixes_53 rfl rfl ?_
            refine x_aload_n C 0 dX13_mixes_54 rfl rfl ?_
            refine x_get (v := iV (s18 184 34)) C 34 cls_X13 at_X13 (by decide) wd1536 rfl rfl dX13_mixes_55 ?_
            refine x_aload_n C 0 dX13_mixes_58 rfl rfl ?_
            refine x_aload_n C 1 dX13_mixes_59 rfl rfl ?_
            refine x_aload_n C 0 dX13_mixes_60 rfl rfl ?_
            refine x_get (v := .ref (xqa (xXE X).2.2 192)) C 18 cls_X13 at_X13 (by decide) wd1520 rfl (xV_r (rt_X13_batchDough  _) rfl) dX13_mixes_61 ?_
            refine x_iload_n C 3 dX13_mixes_64 rfl rfl ?_
            refine x_iald C at_X13_batchDough rfl dX13_mixes_65 (fun _ => ?_)
            refine x_iconst C (0) dX13_mixes_66 rfl ?_
            refine x_callV C (ct_X13_dough _ _ k1 (s18 192 (zI t3.2.1).toNat) 0 s18 hk1) mt_X13_dough vr_X13_dough wd1895 cls_X13 at_X13 rfl ⟨rfl, rfl, Nat.le_of_ble_eq_true rfl, Nat.le_of_ble_eq_true rfl⟩ rfl (Nat.le_of_ble_eq_true rfl) dX13_mixes_67 (kI (fun v19 => ?_))
            refine x_iadd C dX13_mixes_70 ?_
            refine x_iast C at_X13_until rfl dX13_mixes_71 (fun _ => ?_)
            refine x_letS (fun s20 => ?_)
            refine x_aload_n C 0 dX13_mixes_72 rfl rfl ?_
            refine x_aload_n C 0 dX13_mixes_73 rfl rfl ?_
            refine x_get (v := iV (s20 184 36)) C 36 cls_X13 at_X13 (by decide) wd1538 rfl rfl dX13_mixes_74 ?_
            refine x_aload_n C 0 dX13_mixes_77 rfl rfl ?_
            refine x_get (v := iV (s20 184 34)) C 34 cls_X13 at_X13 (by decide) wd1536 rfl rfl dX13_mixes_78 ?_
            refine x_iadd C dX13_mixes_81 ?_
            refine x_put C 36 ((s20 184 36) + (s20 184 34)) cls_X13 at_X13 (by decide) wd1538 rfl rfl rfl rfl (xV_pI rfl) dX13_mixes_82 ?_
            refine x_letS (fun s21 => ?_)
            refine x_iload_n C 2 dX13_mixes_85 rfl rfl ?_
            refine x_iconst C (1) dX13_mixes_86 rfl ?_
            refine x_isub C dX13_mixes_87 ?_
            refine x_letI (fun v22 => ?_)
            refine x_istore_n (L' := [(2, _), (0, _), (1, _), (3, _)]) C dX13_mixes_88 rfl (by decide) rfl ?_
            refine x_pick [1, 2, 0, 3] rfl ?_
            exact hJ13 (v22, s21)
          · refine x_goto C 89 dX13_mixes_33 rfl ?_
            refine x_pick [0, 1, 2, 3] rfl ?_
            exact hJ13 (t3.1, t3.2.2)
theorem ct_X13_mixes (l : Launch) (E : xE) (n : Nat) (k1 : Nat) (σ : xS) (hk1 : xAt WW k1 0 289)  : xMet l E yX13_mixes cX13_mixes 4 none { frames := 1, cells := 0, slots := 0, locals := 23 } [.ref (xqa E.2.2 184), .ref (xqa E.2.2 k1)] WW WW σ (xrV (m_X13_mixes n k1 σ)) := by
  refine xMet.of0 (by decide) (Nat.le_of_ble_eq_true rfl) rfl rfl (fun X hE C => ?_)
  subst hE
  exact xMap (fun q => (none, q)) (wk_X13_mixes C (fun _ => rfl) hk1)
theorem mt_X13_mixes : xMth yX13_mixes cX13_mixes 4 none 1 := ⟨wd1996, wd164, ⟨by decide, by decide, rfl⟩⟩
theorem vr_X13_mixes : xVir yX13_mixes := ⟨wd1995, wd112⟩
def m_X13_simulates (n : Nat) (k1 : Nat) (σ : xS) : Option xS :=
  (m_X13_clears n k1 σ).bind fun s1 => xlet (xput s1 184 34 0) fun s2 => loopF (fun rec4 (t3 : xS) => (m_X13_stateMany n 8 t3).bind fun v6 => (m_X13_stateMany n 9 t3).bind fun v7 => if (zI (t3 184 19)) ≤ (zI (v6 + v7)) then some t3 else (m_X13_endsAll n k1 t3).bind fun s9 => (m_X13_spoils n k1 s9).bind fun s10 => (m_X13_bakes n k1 s10).bind fun s11 => (m_X13_shapes n k1 s11).bind fun s12 => (m_X13_mixes n k1 s12).bind fun s13 => xlet (xput s13 184 34 ((s13 184 34) + 1)) fun s14 => rec4 s14) n s2
set_option maxHeartbeats 4000000 in
set_option maxRecDepth 100000 in
theorem wk_X13_simulates {X : xX} {Qf : xS → State → Prop} {n : Nat} {k1 : Nat} {σ : xS} (C : xCx X cX13_simulates "BakeryNightModel" none { frames := 6, cells := 0, slots := 0, locals := 139 } 2) (hQ : ∀ τ, Qf τ = xQf X WW (none, τ)) (hk1 : xAt WW k1 0 289) : WO X Qf WW σ 0 [(0, .ref (xqa (xXE X).2.2 184)), (1, .ref (xqa (xXE X).2.2 k1))] [] (m_X13_simulates n k1 σ) := by
  unfold m_X13_simulates
  refine x_aload_n C 0 dX13_simulates_0 rfl rfl ?_
  refine x_aload_n C 1 dX13_simulates_1 rfl rfl ?_
  refine x_callV C (ct_X13_clears _ _ n k1 σ hk1) mt_X13_clears vr_X13_clears wd1920 cls_X13 at_X13 rfl ⟨rfl, rfl, Nat.le_of_ble_eq_true rfl, Nat.le_of_ble_eq_true rfl⟩ rfl (by decide) dX13_simulates_2 (kV (fun s1 => ?_))
  refine x_aload_n C 0 dX13_simulates_5 rfl rfl ?_
  refine x_iconst C (0) dX13_simulates_6 rfl ?_
  refine x_put C 34 0 cls_X13 at_X13 (by decide) wd1536 rfl rfl rfl rfl (xV_pI rfl) dX13_simulates_7 ?_
  refine x_letS (fun s2 => ?_)
  refine x_pick [0, 1] rfl ?_
  refine x_loop (fun t3 : xS => t3) (fun t3 : xS => [(0, .ref (xqa (xXE X).2.2 184)), (1, .ref (xqa (xXE X).2.2 k1))]) (fun rec4 hr5 t3 => ?_) n s2
  refine x_aload_n C 0 dX13_simulates_10 rfl rfl ?_
  refine x_bipush C (8) dX13_simulates_11 rfl ?_
  refine x_callV C (ct_X13_stateMany _ _ n 8 t3) mt_X13_stateMany vr_X13_stateMany wd1941 cls_X13 at_X13 rfl ⟨rfl, rfl, Nat.le_of_ble_eq_true rfl, Nat.le_of_ble_eq_true rfl⟩ rfl (by decide) dX13_simulates_13 (kI (fun v6 => ?_))
  refine x_aload_n C 0 dX13_simulates_16 rfl rfl ?_
  refine x_bipush C (9) dX13_simulates_17 rfl ?_
  refine x_callV C (ct_X13_stateMany _ _ n 9 t3) mt_X13_stateMany vr_X13_stateMany wd1941 cls_X13 at_X13 rfl ⟨rfl, rfl, Nat.le_of_ble_eq_true rfl, Nat.le_of_ble_eq_true rfl⟩ rfl (Nat.le_of_ble_eq_true rfl) dX13_simulates_19 (kI (fun v7 => ?_))
  refine x_iadd C dX13_simulates_22 ?_
  refine x_aload_n C 0 dX13_simulates_23 rfl rfl ?_
  refine x_get (v := iV (t3 184 19)) C 19 cls_X13 at_X13 (by decide) wd1521 rfl rfl dX13_simulates_24 ?_
  refine x_icmp_ge C 68 rfl rfl dX13_simulates_27 rfl (fun c8 => x_op c8 ?_) (fun c8 => x_on c8 ?_)
  · exact x_vretQ C (hQ _) rfl dX13_simulates_68
  · refine x_aload_n C 0 dX13_simulates_30 rfl rfl ?_
    refine x_aload_n C 1 dX13_simulates_31 rfl rfl ?_
    refine x_callV C (ct_X13_endsAll _ _ n k1 t3 hk1) mt_X13_endsAll vr_X13_endsAll wd1945 cls_X13 at_X13 rfl ⟨rfl, rfl, Nat.le_of_ble_eq_true rfl, Nat.le_of_ble_eq_true rfl⟩ rfl (by decide) dX13_simulates_32 (kV (fun s9 => ?_))
    refine x_aload_n C 0 dX13_simulates_35 rfl rfl ?_
    refine x_aload_n C 1 dX13_simulates_36 rfl rfl ?_
    refine x_callV C (ct_X13_spoils _ _ n k1 s9 hk1) mt_X13_spoils vr_X13_spoils wd1957 cls_X13 at_X13 rfl ⟨rfl, rfl, Nat.le_of_ble_eq_true rfl, Nat.le_of_ble_eq_true rfl⟩ rfl (by decide) dX13_simulates_37 (kV (fun s10 => ?_))
    refine x_aload_n C 0 dX13_simulates_40 rfl rfl ?_
    refine x_aload_n C 1 dX13_simulates_41 rfl rfl ?_
    refine x_callV C (ct_X13_bakes _ _ n k1 s10 hk1) mt_X13_bakes vr_X13_bakes wd1961 cls_X13 at_X13 rfl ⟨rfl, rfl, Nat.le_of_ble_eq_true rfl, Nat.le_of_ble_eq_true rfl⟩ rfl (by decide) dX13_simulates_42 (kV (fun s11 => ?_))
    refine x_aload_n C 0 dX13_simulates_45 rfl rfl ?_
    refine x_aload_n C 1 dX13_simulates_46 rfl rfl ?_
    refine x_callV C (ct_X13_shapes _ _ n k1 s11 hk1) mt_X13_shapes vr_X13_shapes wd1989 cls_X13 at_X13 rfl ⟨rfl, rfl, Nat.le_of_ble_eq_true rfl, Nat.le_of_ble_eq_true rfl⟩ rfl (by decide) dX13_simulates_47 (kV (fun s12 => ?_))
    refine x_aload_n C 0 dX13_simulates_50 rfl rfl ?_
    refine x_aload_n C 1 dX13_simulates_51 rfl rfl ?_
    refine x_callV C (ct_X13_mixes _ _ n k1 s12 hk1) mt_X13_mixes vr_X13_mixes wd1993 cls_X13 at_X13 rfl ⟨rfl, rfl, Nat.le_of_ble_eq_true rfl, Nat.le_of_ble_eq_true rfl⟩ rfl (by decide) dX13_simulates_52 (kV (fun s13 => ?_))
    refine x_aload_n C 0 dX13_simulates_55 rfl rfl ?_
    refine x_aload_n C 0 dX13_simulates_56 rfl rfl ?_
    refine x_get (v := iV (s13 184 34)) C 34 cls_X13 at_X13 (by decide) wd1536 rfl rfl dX13_simulates_57 ?_
    refine x_iconst C (1) dX13_simulates_60 rfl ?_
    refine x_iadd C dX13_simulates_61 ?_
    refine x_put C 34 ((s13 184 34) + 1) cls_X13 at_X13 (by decide) wd1536 rfl rfl rfl rfl (xV_pI rfl) dX13_simulates_62 ?_
    refine x_letS (fun s14 => ?_)
    refine x_goto C 10 dX13_simulates_65 rfl ?_
    refine x_pick [0, 1] rfl ?_
    exact hr5 s14
theorem ct_X13_simulates (l : Launch) (E : xE) (n : Nat) (k1 : Nat) (σ : xS) (hk1 : xAt WW k1 0 289)  : xMet l E yX13_simulates cX13_simulates 2 none { frames := 6, cells := 0, slots := 0, locals := 139 } [.ref (xqa E.2.2 184), .ref (xqa E.2.2 k1)] WW WW σ (xrV (m_X13_simulates n k1 σ)) := by
  refine xMet.of0 (by decide) (Nat.le_of_ble_eq_true rfl) rfl rfl (fun X hE C => ?_)
  subst hE
  exact xMap (fun q => (none, q)) (wk_X13_simulates C (fun _ => rfl) hk1)
theorem mt_X13_simulates : xMth yX13_simulates cX13_simulates 2 none 1 := ⟨wd1919, wd164, ⟨by decide, by decide, rfl⟩⟩
theorem vr_X13_simulates : xVir yX13_simulates := ⟨wd1918, wd93⟩
def m_X13_simulate (n : Nat) (p1 : Int) (σ : xS) : Option (Int × xS) :=
  xlet (xput σ 184 7 0) fun s1 => if (m_X13_isIn (zI p1) 0 1439) = 0 then some ((-1), s1) else (m_X13_allBatches n 185 s1).bind fun v3 => if (zI v3) ≤ 60 then xlet (xput s1 184 5 1) fun s5 => xlet (xput s5 184 6 p1) fun s6 => (m_X13_simulates n 185 s6).bind fun s7 => some (p1 + (s7 184 35), s7) else some ((-3), s1)
set_option maxHeartbeats 4000000 in
set_option maxRecDepth 100000 in
theorem wk_X13_simulate {X : xX} {Qf : (Int × xS) → State → Prop} {n : Nat} {p1 : Int} {σ : xS} (C : xCx X cX13_simulate "BakeryNightModel" (some .int) { frames := 7, cells := 0, slots := 0, locals := 160 } 2) (hQ : ∀ v τ, Qf (v, τ) = xQf X WW (some (iV v), τ))  : WO X Qf WW σ 0 [(0, .ref (xqa (xXE X).2.2 184)), (1, iV p1)] [] (m_X13_simulate n p1 σ) := by
  unfold m_X13_simulate
  refine x_aload_n C 0 dX13_simulate_0 rfl rfl ?_
  refine x_iconst C (0) dX13_simulate_1 rfl ?_
  refine x_put C 7 0 cls_X13 at_X13 (by decide) wd1509 rfl rfl rfl rfl (xV_pI rfl) dX13_simulate_2 ?_
  refine x_letS (fun s1 => ?_)
  refine x_aload_n C 0 dX13_simulate_5 rfl rfl ?_
  refine x_iload_n C 1 dX13_simulate_6 rfl rfl ?_
  refine x_i2l C dX13_simulate_7 ?_
  refine x_lconst C 0 dX13_simulate_8 rfl ?_
  refine x_ldc2 C (1439) wd1915 rfl dX13_simulate_9 ?_
  refine x_callV C (ct_X13_isIn _ _ (zI p1) 0 1439 s1) mt_X13_isIn vr_X13_isIn wd1680 cls_X13 at_X13 rfl ⟨rfl, rfl, Nat.le_of_ble_eq_true rfl, Nat.le_of_ble_eq_true rfl⟩ rfl (by decide) dX13_simulate_12 (kP ?_)
  refine x_if_ne C 20 (zI_bo (bo_X13_isIn _ _ _)) dX13_simulate_15 rfl (fun c2 => x_on c2 ?_) (fun c2 => x_op c2 ?_)
  · refine x_aload_n C 0 dX13_simulate_20 rfl rfl ?_
    refine x_aload_n C 0 dX13_simulate_21 rfl rfl ?_
    refine x_get (v := .ref (xqa (xXE X).2.2 185)) C 0 cls_X13 at_X13 (by decide) wd1502 rfl (xV_r (rt_X13_bakery  _) rfl) dX13_simulate_22 ?_
    refine x_callV C (ct_X13_allBatches _ _ n 185 s1 at_X13_bakery) mt_X13_allBatches vr_X13_allBatches wd1887 cls_X13 at_X13 rfl ⟨rfl, rfl, Nat.le_of_ble_eq_true rfl, Nat.le_of_ble_eq_true rfl⟩ rfl (by decide) dX13_simulate_25 (kI (fun v3 => ?_))
    refine x_bipush C (60) dX13_simulate_28 rfl ?_
    refine x_icmp_le C 36 rfl (zIl _ rfl) dX13_simulate_30 rfl (fun c4 => x_op c4 ?_) (fun c4 => x_on c4 ?_)
    · refine x_aload_n C 0 dX13_simulate_36 rfl rfl ?_
      refine x_iconst C (1) dX13_simulate_37 rfl ?_
      refine x_put C 5 1 cls_X13 at_X13 (by decide) wd1507 rfl rfl (xnb (Or.inr rfl)) (xfb (Or.inr rfl)) (xV_pI rfl) dX13_simulate_38 ?_
      refine x_letS (fun s5 => ?_)
      refine x_aload_n C 0 dX13_simulate_41 rfl rfl ?_
      refine x_iload_n C 1 dX13_simulate_42 rfl rfl ?_
      refine x_put C 6 p1 cls_X13 at_X13 (by decide) wd1508 rfl rfl rfl rfl (xV_pI rfl) dX13_simulate_43 ?_
      refine x_letS (fun s6 => ?_)
      refine x_aload_n C 0 dX13_simulate_46 rfl rfl ?_
      refine x_aload_n C 0 dX13_simulate_47 rfl rfl ?_
      refine x_get (v := .ref (xqa (xXE X).2.2 185)) C 0 cls_X13 at_X13 (by decide) wd1502 rfl (xV_r (rt_X13_bakery  _) rfl) dX13_simulate_48 ?_
      refine x_callV C (ct_X13_simulates _ _ n 185 s6 at_X13_bakery) mt_X13_simulates vr_X13_simulates wd1916 cls_X13 at_X13 rfl ⟨rfl, rfl, Nat.le_of_ble_eq_true rfl, Nat.le_of_ble_eq_true rfl⟩ rfl (by decide) dX13_simulate_51 (kV (fun s7 => ?_))
      refine x_iload_n C 1 dX13_simulate_54 rfl rfl ?_
      refine x_aload_n C 0 dX13_simulate_55 rfl rfl ?_
      refine x_get (v := iV (s7 184 35)) C 35 cls_X13 at_X13 (by decide) wd1537 rfl rfl dX13_simulate_56 ?_
      refine x_iadd C dX13_simulate_59 ?_
      exact x_iretQ C (hQ _ _) rfl dX13_simulate_60
    · refine x_bipush C (-3) dX13_simulate_33 rfl ?_
      exact x_iretQ C (hQ _ _) rfl dX13_simulate_35
  · refine x_iconst C (-1) dX13_simulate_18 rfl ?_
    exact x_iretQ C (hQ _ _) rfl dX13_simulate_19
theorem ct_X13_simulate (l : Launch) (E : xE) (n : Nat) (p1 : Int) (σ : xS)   : xMet l E yX13_simulate cX13_simulate 2 (some .int) { frames := 7, cells := 0, slots := 0, locals := 160 } [.ref (xqa E.2.2 184), iV p1] WW WW σ (xrS (m_X13_simulate n p1 σ)) := by
  refine xMet.of0 (by decide) (Nat.le_of_ble_eq_true rfl) rfl rfl (fun X hE C => ?_)
  subst hE
  exact xMap (fun q => (some (iV q.1), q.2)) (wk_X13_simulate C (fun _ _ => rfl) )
theorem mt_X13_simulate : xMth yX13_simulate cX13_simulate 2 (some .int) 1 := ⟨wd1914, wd164, ⟨by decide, by decide, rfl⟩⟩
theorem vr_X13_simulate : xVir yX13_simulate := ⟨wd1912, wd1913⟩
def m_X13_isNight (n : Nat) (σ : xS) : Option (Int × xS) :=
  xlet (xput σ 184 7 0) fun s1 => xj (fun (q5 : xS) => xbo (q5 184 5) (some (q5 184 5, q5))) fun J3 => if (zI (s1 184 5)) = 0 then J3 s1 else (m_X13_simulates n 185 s1).bind fun s7 => J3 s7
set_option maxHeartbeats 4000000 in
set_option maxRecDepth 100000 in
theorem wk_X13_isNight {X : xX} {Qf : (Int × xS) → State → Prop} {n : Nat} {σ : xS} (C : xCx X cX13_isNight "BakeryNightModel" (some .boolean) { frames := 7, cells := 0, slots := 0, locals := 160 } 1) (hQ : ∀ v τ, Qf (v, τ) = xQf X WW (some (iV v), τ))  : WO X Qf WW σ 0 [(0, .ref (xqa (xXE X).2.2 184))] [] (m_X13_isNight n σ) := by
  unfold m_X13_isNight
  refine x_aload_n C 0 dX13_isNight_0 rfl rfl ?_
  refine x_iconst C (0) dX13_isNight_1 rfl ?_
  refine x_put C 7 0 cls_X13 at_X13 (by decide) wd1509 rfl rfl rfl rfl (xV_pI rfl) dX13_isNight_2 ?_
  refine x_letS (fun s1 => ?_)
  refine x_aload_n C 0 dX13_isNight_5 rfl rfl ?_
  refine x_get (v := iV (s1 184 5)) C 5 cls_X13 at_X13 (by decide) wd1507 rfl rfl dX13_isNight_6 ?_
  refine x_join (fun J => ∀ q5 : xS, WO X Qf WW q5 20 [(0, .ref (xqa (xXE X).2.2 184))] [] (J q5)) ?_ ?_
  · intro q5
    refine x_aload_n C 0 dX13_isNight_20 rfl rfl ?_
    refine x_get (v := iV (q5 184 5)) C 5 cls_X13 at_X13 (by decide) wd1507 rfl rfl dX13_isNight_21 ?_
    exact x_bo (fun hb => x_zretQ C (hQ _ _) rfl hb dX13_isNight_24)
  · intro J3 hJ4
    refine x_if_eq C 20 rfl dX13_isNight_9 rfl (fun c6 => x_op c6 ?_) (fun c6 => x_on c6 ?_)
    · refine x_pick [0] rfl ?_
      exact hJ4 s1
    · refine x_aload_n C 0 dX13_isNight_12 rfl rfl ?_
      refine x_aload_n C 0 dX13_isNight_13 rfl rfl ?_
      refine x_get (v := .ref (xqa (xXE X).2.2 185)) C 0 cls_X13 at_X13 (by decide) wd1502 rfl (xV_r (rt_X13_bakery  _) rfl) dX13_isNight_14 ?_
      refine x_callV C (ct_X13_simulates _ _ n 185 s1 at_X13_bakery) mt_X13_simulates vr_X13_simulates wd1916 cls_X13 at_X13 rfl ⟨rfl, rfl, Nat.le_of_ble_eq_true rfl, Nat.le_of_ble_eq_true rfl⟩ rfl (by decide) dX13_isNight_17 (kV (fun s7 => ?_))
      refine x_pick [0] rfl ?_
      exact hJ4 s7
theorem ct_X13_isNight (l : Launch) (E : xE) (n : Nat) (σ : xS)   : xMet l E yX13_isNight cX13_isNight 1 (some .boolean) { frames := 7, cells := 0, slots := 0, locals := 160 } [.ref (xqa E.2.2 184)] WW WW σ (xrS (m_X13_isNight n σ)) := by
  refine xMet.of0 (by decide) (Nat.le_of_ble_eq_true rfl) rfl rfl (fun X hE C => ?_)
  subst hE
  exact xMap (fun q => (some (iV q.1), q.2)) (wk_X13_isNight C (fun _ _ => rfl) )
theorem mt_X13_isNight : xMth yX13_isNight cX13_isNight 1 (some .boolean) 0 := ⟨wd2008, wd164, ⟨by decide, by decide, rfl⟩⟩
theorem vr_X13_isNight : xVir yX13_isNight := ⟨wd2007, wd114⟩
def m_X13_isBatch (n : Nat) (p1 : Int) (σ : xS) : Option (Int × xS) :=
  xbS (m_X13_isNight n σ) fun v2 s1 => xj (fun (q5 : xS) => xlet (if (zI (q5 184 7)) = 0 then 1 else 0) fun v6 => xbo v6 (some (v6, q5))) fun J3 => if (zI v2) = 0 then xlet (xput s1 184 7 1) fun s12 => J3 s12 else if (m_X13_isIn (zI p1) 0 ((zI (s1 184 19)) - 1)) = 0 then xlet (xput s1 184 7 2) fun s11 => J3 s11 else J3 s1
set_option maxHeartbeats 4000000 in
set_option maxRecDepth 100000 in
theorem wk_X13_isBatch {X : xX} {Qf : (Int × xS) → State → Prop} {n : Nat} {p1 : Int} {σ : xS} (C : xCx X cX13_isBatch "BakeryNightModel" (some .boolean) { frames := 8, cells := 0, slots := 0, locals := 180 } 2) (hQ : ∀ v τ, Qf (v, τ) = xQf X WW (some (iV v), τ))  : WO X Qf WW σ 0 [(0, .ref (xqa (xXE X).2.2 184)), (1, iV p1)] [] (m_X13_isBatch n p1 σ) := by
  unfold m_X13_isBatch
  refine x_aload_n C 0 dX13_isBatch_0 rfl rfl ?_
  refine x_callV C (ct_X13_isNight _ _ n σ) mt_X13_isNight vr_X13_isNight wd2005 cls_X13 at_X13 rfl ⟨rfl, rfl, Nat.le_of_ble_eq_true rfl, Nat.le_of_ble_eq_true rfl⟩ rfl (by decide) dX13_isBatch_1 (kS (fun v2 s1 => ?_))
  refine x_join (fun J => ∀ q5 : xS, WO X Qf WW q5 37 [(0, .ref (xqa (xXE X).2.2 184))] [] (J q5)) ?_ ?_
  · intro q5
    refine x_aload_n C 0 dX13_isBatch_37 rfl rfl ?_
    refine x_get (v := iV (q5 184 7)) C 7 cls_X13 at_X13 (by decide) wd1509 rfl rfl dX13_isBatch_38 ?_
    refine x_tree 49 [] (fun v6 => ?_) (fun hJ7 => ?_)
    · exact x_bo (fun hb => x_zretQ C (hQ _ _) rfl hb dX13_isBatch_49)
    · refine x_if_ne C 48 rfl dX13_isBatch_41 rfl (fun c8 => ?_) (fun c8 => ?_)
      · refine x_iconst C (0) dX13_isBatch_48 rfl ?_
        exact hJ7 _ (by rw [if_neg c8])
      · refine x_iconst C (1) dX13_isBatch_44 rfl ?_
        refine x_goto C 49 dX13_isBatch_45 rfl ?_
        exact hJ7 _ (by rw [if_pos c8])
  · intro J3 hJ4
    refine x_if_ne C 15 rfl dX13_isBatch_4 rfl (fun c9 => x_on c9 ?_) (fun c9 => x_op c9 ?_)
    · refine x_aload_n C 0 dX13_isBatch_15 rfl rfl ?_
      refine x_iload_n C 1 dX13_isBatch_16 rfl rfl ?_
      refine x_i2l C dX13_isBatch_17 ?_
      refine x_lconst C 0 dX13_isBatch_18 rfl ?_
      refine x_aload_n C 0 dX13_isBatch_19 rfl rfl ?_
      refine x_get (v := iV (s1 184 19)) C 19 cls_X13 at_X13 (by decide) wd1521 rfl rfl dX13_isBatch_20 ?_
      refine x_i2l C dX13_isBatch_23 ?_
      refine x_lconst C 1 dX13_isBatch_24 rfl ?_
      refine x_lsub C dX13_isBatch_25 ?_
      refine x_callV C (ct_X13_isIn _ _ (zI p1) 0 ((zI (s1 184 19)) - 1) s1) mt_X13_isIn vr_X13_isIn wd1680 cls_X13 at_X13 rfl ⟨rfl, rfl, Nat.le_of_ble_eq_true rfl, Nat.le_of_ble_eq_true rfl⟩ rfl (by decide) dX13_isBatch_26 (kP ?_)
      refine x_if_ne C 37 (zI_bo (bo_X13_isIn _ _ _)) dX13_isBatch_29 rfl (fun c10 => x_on c10 ?_) (fun c10 => x_op c10 ?_)
      · refine x_pick [0] rfl ?_
        exact hJ4 s1
      · refine x_aload_n C 0 dX13_isBatch_32 rfl rfl ?_
        refine x_iconst C (2) dX13_isBatch_33 rfl ?_
        refine x_put C 7 2 cls_X13 at_X13 (by decide) wd1509 rfl rfl rfl rfl (xV_pI rfl) dX13_isBatch_34 ?_
        refine x_letS (fun s11 => ?_)
        refine x_pick [0] rfl ?_
        exact hJ4 s11
    · refine x_aload_n C 0 dX13_isBatch_7 rfl rfl ?_
      refine x_iconst C (1) dX13_isBatch_8 rfl ?_
      refine x_put C 7 1 cls_X13 at_X13 (by decide) wd1509 rfl rfl rfl rfl (xV_pI rfl) dX13_isBatch_9 ?_
      refine x_letS (fun s12 => ?_)
      refine x_goto C 37 dX13_isBatch_12 rfl ?_
      refine x_pick [0] rfl ?_
      exact hJ4 s12
theorem ct_X13_isBatch (l : Launch) (E : xE) (n : Nat) (p1 : Int) (σ : xS)   : xMet l E yX13_isBatch cX13_isBatch 2 (some .boolean) { frames := 8, cells := 0, slots := 0, locals := 180 } [.ref (xqa E.2.2 184), iV p1] WW WW σ (xrS (m_X13_isBatch n p1 σ)) := by
  refine xMet.of0 (by decide) (Nat.le_of_ble_eq_true rfl) rfl rfl (fun X hE C => ?_)
  subst hE
  exact xMap (fun q => (some (iV q.1), q.2)) (wk_X13_isBatch C (fun _ _ => rfl) )
theorem mt_X13_isBatch : xMth yX13_isBatch cX13_isBatch 2 (some .boolean) 1 := ⟨wd2004, wd164, ⟨by decide, by decide, rfl⟩⟩
theorem vr_X13_isBatch : xVir yX13_isBatch := ⟨wd2003, wd113⟩
def m_X13_batchDough (n : Nat) (p1 : Int) (σ : xS) : Option (Int × xS) :=
  xbS (m_X13_isBatch n p1 σ) fun v2 s1 => xj (fun (q5 : Int) => some (q5, s1)) fun J3 => if (zI v2) = 0 then J3 0 else xck (zI p1) 60 <| J3 (s1 192 (zI p1).toNat)
set_option maxHeartbeats 4000000 in
set_option maxRecDepth 100000 in
theorem wk_X13_batchDough {X : xX} {Qf : (Int × xS) → State → Prop} {n : Nat} {p1 : Int} {σ : xS} (C : xCx X cX13_batchDough "BakeryNightModel" (some .int) { frames := 9, cells := 0, slots := 0, locals := 201 } 2) (hQ : ∀ v τ, Qf (v, τ) = xQf X WW (some (iV v), τ))  : WO X Qf WW σ 0 [(0, .ref (xqa (xXE X).2.2 184)), (1, iV p1)] [] (m_X13_batchDough n p1 σ) := by
  unfold m_X13_batchDough
  refine x_aload_n C 0 dX13_batchDough_0 rfl rfl ?_
  refine x_iload_n C 1 dX13_batchDough_1 rfl rfl ?_
  refine x_callV C (ct_X13_isBatch _ _ n p1 σ) mt_X13_isBatch vr_X13_isBatch wd2001 cls_X13 at_X13 rfl ⟨rfl, rfl, Nat.le_of_ble_eq_true rfl, Nat.le_of_ble_eq_true rfl⟩ rfl (by decide) dX13_batchDough_2 (kS (fun v2 s1 => ?_))
  refine x_join (fun J => ∀ q5 : Int, WO X Qf WW s1 18 [] [iV q5] (J q5)) ?_ ?_
  · intro q5
    exact x_iretQ C (hQ _ _) rfl dX13_batchDough_18
  · intro J3 hJ4
    refine x_if_eq C 17 rfl dX13_batchDough_5 rfl (fun c6 => x_op c6 ?_) (fun c6 => x_on c6 ?_)
    · refine x_iconst C (0) dX13_batchDough_17 rfl ?_
      refine x_pick [] rfl ?_
      exact hJ4 0
    · refine x_aload_n C 0 dX13_batchDough_8 rfl rfl ?_
      refine x_get (v := .ref (xqa (xXE X).2.2 192)) C 18 cls_X13 at_X13 (by decide) wd1520 rfl (xV_r (rt_X13_batchDough  _) rfl) dX13_batchDough_9 ?_
      refine x_iload_n C 1 dX13_batchDough_12 rfl rfl ?_
      refine x_iald C at_X13_batchDough rfl dX13_batchDough_13 (fun _ => ?_)
      refine x_goto C 18 dX13_batchDough_14 rfl ?_
      refine x_pick [] rfl ?_
      exact hJ4 (s1 192 (zI p1).toNat)
theorem ct_X13_batchDough (l : Launch) (E : xE) (n : Nat) (p1 : Int) (σ : xS)   : xMet l E yX13_batchDough cX13_batchDough 2 (some .int) { frames := 9, cells := 0, slots := 0, locals := 201 } [.ref (xqa E.2.2 184), iV p1] WW WW σ (xrS (m_X13_batchDough n p1 σ)) := by
  refine xMet.of0 (by decide) (Nat.le_of_ble_eq_true rfl) rfl rfl (fun X hE C => ?_)
  subst hE
  exact xMap (fun q => (some (iV q.1), q.2)) (wk_X13_batchDough C (fun _ _ => rfl) )
theorem mt_X13_batchDough : xMth yX13_batchDough cX13_batchDough 2 (some .int) 1 := ⟨wd2000, wd164, ⟨by decide, by decide, rfl⟩⟩
theorem vr_X13_batchDough : xVir yX13_batchDough := ⟨wd1998, wd1999⟩
def m_X13_stageMinute (n : Nat) (p1 : Int) (p2 : Int) (σ : xS) : Option (Int × xS) :=
  xbS (m_X13_isBatch n p1 σ) fun v2 s1 => if (zI v2) = 0 then some (0, s1) else if (m_X13_isIn (zI p2) 0 5) = 0 then xbS (m_X13_fails 2 s1) fun v10 s9 => some (v10, s9) else (m_X13_stageOf p1 p2 s1).bind fun v5 => xlet (if (zI v5) = (-1) then (-1) else (s1 184 6) + v5) fun v6 => some (v6, s1)
set_option maxHeartbeats 4000000 in
set_option maxRecDepth 100000 in
theorem wk_X13_stageMinute {X : xX} {Qf : (Int × xS) → State → Prop} {n : Nat} {p1 : Int} {p2 : Int} {σ : xS} (C : xCx X cX13_stageMinute "BakeryNightModel" (some .int) { frames := 9, cells := 0, slots := 0, locals := 201 } 4) (hQ : ∀ v τ, Qf (v, τ) = xQf X WW (some (iV v), τ))  : WO X Qf WW σ 0 [(0, .ref (xqa (xXE X).2.2 184)), (1, iV p1), (2, iV p2)] [] (m_X13_stageMinute n p1 p2 σ) := by
  unfold m_X13_stageMinute
  refine x_aload_n C 0 dX13_stageMinute_0 rfl rfl ?_
  refine x_iload_n C 1 dX13_stageMinute_1 rfl rfl ?_
  refine x_callV C (ct_X13_isBatch _ _ n p1 σ) mt_X13_isBatch vr_X13_isBatch wd2001 cls_X13 at_X13 rfl ⟨rfl, rfl, Nat.le_of_ble_eq_true rfl, Nat.le_of_ble_eq_true rfl⟩ rfl (by decide) dX13_stageMinute_2 (kS (fun v2 s1 => ?_))
  refine x_if_ne C 10 rfl dX13_stageMinute_5 rfl (fun c3 => x_on c3 ?_) (fun c3 => x_op c3 ?_)
  · refine x_aload_n C 0 dX13_stageMinute_10 rfl rfl ?_
    refine x_iload_n C 2 dX13_stageMinute_11 rfl rfl ?_
    refine x_i2l C dX13_stageMinute_12 ?_
    refine x_lconst C 0 dX13_stageMinute_13 rfl ?_
    refine x_ldc2 C (5) wd2013 rfl dX13_stageMinute_14 ?_
    refine x_callV C (ct_X13_isIn _ _ (zI p2) 0 5 s1) mt_X13_isIn vr_X13_isIn wd1680 cls_X13 at_X13 rfl ⟨rfl, rfl, Nat.le_of_ble_eq_true rfl, Nat.le_of_ble_eq_true rfl⟩ rfl (by decide) dX13_stageMinute_17 (kP ?_)
    refine x_if_ne C 29 (zI_bo (bo_X13_isIn _ _ _)) dX13_stageMinute_20 rfl (fun c4 => x_on c4 ?_) (fun c4 => x_op c4 ?_)
    · refine x_aload_n C 0 dX13_stageMinute_29 rfl rfl ?_
      refine x_iload_n C 1 dX13_stageMinute_30 rfl rfl ?_
      refine x_iload_n C 2 dX13_stageMinute_31 rfl rfl ?_
      refine x_callV C (ct_X13_stageOf _ _ p1 p2 s1) mt_X13_stageOf vr_X13_stageOf wd2018 cls_X13 at_X13 rfl ⟨rfl, rfl, Nat.le_of_ble_eq_true rfl, Nat.le_of_ble_eq_true rfl⟩ rfl (by decide) dX13_stageMinute_32 (kI (fun v5 => ?_))
      refine x_istore_n (L' := [(3, _), (0, _), (1, _), (2, _)]) C dX13_stageMinute_35 rfl (by decide) rfl ?_
      refine x_iload_n C 0 dX13_stageMinute_36 rfl rfl ?_
      refine x_iconst C (-1) dX13_stageMinute_37 rfl ?_
      refine x_tree 51 [] (fun v6 => ?_) (fun hJ7 => ?_)
      · exact x_iretQ C (hQ _ _) rfl dX13_stageMinute_51
      · refine x_icmp_ne C 45 rfl (zIl _ rfl) dX13_stageMinute_38 rfl (fun c8 => ?_) (fun c8 => ?_)
        · refine x_aload_n C 1 dX13_stageMinute_45 rfl rfl ?_
          refine x_get (v := iV (s1 184 6)) C 6 cls_X13 at_X13 (by decide) wd1508 rfl rfl dX13_stageMinute_46 ?_
          refine x_iload_n C 0 dX13_stageMinute_49 rfl rfl ?_
          refine x_iadd C dX13_stageMinute_50 ?_
          exact hJ7 _ (by rw [if_neg c8])
        · refine x_iconst C (-1) dX13_stageMinute_41 rfl ?_
          refine x_goto C 51 dX13_stageMinute_42 rfl ?_
          exact hJ7 _ (by rw [if_pos c8])
    · refine x_aload_n C 0 dX13_stageMinute_23 rfl rfl ?_
      refine x_iconst C (2) dX13_stageMinute_24 rfl ?_
      refine x_callV C (ct_X13_fails _ _ 2 s1) mt_X13_fails vr_X13_fails wd2014 cls_X13 at_X13 rfl ⟨rfl, rfl, Nat.le_of_ble_eq_true rfl, Nat.le_of_ble_eq_true rfl⟩ rfl (by decide) dX13_stageMinute_25 (kS (fun v10 s9 => ?_))
      exact x_iretQ C (hQ _ _) rfl dX13_stageMinute_28
  · refine x_iconst C (0) dX13_stageMinute_8 rfl ?_
    exact x_iretQ C (hQ _ _) rfl dX13_stageMinute_9
theorem ct_X13_stageMinute (l : Launch) (E : xE) (n : Nat) (p1 : Int) (p2 : Int) (σ : xS)   : xMet l E yX13_stageMinute cX13_stageMinute 4 (some .int) { frames := 9, cells := 0, slots := 0, locals := 201 } [.ref (xqa E.2.2 184), iV p1, iV p2] WW WW σ (xrS (m_X13_stageMinute n p1 p2 σ)) := by
  refine xMet.of0 (by decide) (Nat.le_of_ble_eq_true rfl) rfl rfl (fun X hE C => ?_)
  subst hE
  exact xMap (fun q => (some (iV q.1), q.2)) (wk_X13_stageMinute C (fun _ _ => rfl) )
theorem mt_X13_stageMinute : xMth yX13_stageMinute cX13_stageMinute 4 (some .int) 2 := ⟨wd2012, wd164, ⟨by decide, by decide, rfl⟩⟩
theorem vr_X13_stageMinute : xVir yX13_stageMinute := ⟨wd2010, wd2011⟩
def m_X13_ovenOf (n : Nat) (p1 : Int) (σ : xS) : Option (Int × xS) :=
  xbS (m_X13_isBatch n p1 σ) fun v2 s1 => xj (fun (q5 : Int) => some (q5, s1)) fun J3 => if (zI v2) = 0 then J3 0 else xck (zI p1) 60 <| J3 (s1 196 (zI p1).toNat)
set_option maxHeartbeats 4000000 in
set_option maxRecDepth 100000 in
theorem wk_X13_ovenOf {X : xX} {Qf : (Int × xS) → State → Prop} {n : Nat} {p1 : Int} {σ : xS} (C : xCx X cX13_ovenOf "BakeryNightModel" (some .int) { frames := 9, cells := 0, slots := 0, locals := 201 } 2) (hQ : ∀ v τ, Qf (v, τ) = xQf X WW (some (iV v), τ))  : WO X Qf WW σ 0 [(0, .ref (xqa (xXE X).2.2 184)), (1, iV p1)] [] (m_X13_ovenOf n p1 σ) := by
  unfold m_X13_ovenOf
  refine x_aload_n C 0 dX13_ovenOf_0 rfl rfl ?_
  refine x_iload_n C 1 dX13_ovenOf_1 rfl rfl ?_
  refine x_callV C (ct_X13_isBatch _ _ n p1 σ) mt_X13_isBatch vr_X13_isBatch wd2001 cls_X13 at_X13 rfl ⟨rfl, rfl, Nat.le_of_ble_eq_true rfl, Nat.le_of_ble_eq_true rfl⟩ rfl (by decide) dX13_ovenOf_2 (kS (fun v2 s1 => ?_))
  refine x_join (fun J => ∀ q5 : Int, WO X Qf WW s1 18 [] [iV q5] (J q5)) ?_ ?_
  · intro q5
    exact x_iretQ C (hQ _ _) rfl dX13_ovenOf_18
  · intro J3 hJ4
    refine x_if_eq C 17 rfl dX13_ovenOf_5 rfl (fun c6 => x_op c6 ?_) (fun c6 => x_on c6 ?_)
    · refine x_iconst C (0) dX13_ovenOf_17 rfl ?_
      refine x_pick [] rfl ?_
      exact hJ4 0
    · refine x_aload_n C 0 dX13_ovenOf_8 rfl rfl ?_
      refine x_get (v := .ref (xqa (xXE X).2.2 196)) C 23 cls_X13 at_X13 (by decide) wd1525 rfl (xV_r (rt_X13_inOven  _) rfl) dX13_ovenOf_9 ?_
      refine x_iload_n C 1 dX13_ovenOf_12 rfl rfl ?_
      refine x_iald C at_X13_inOven rfl dX13_ovenOf_13 (fun _ => ?_)
      refine x_goto C 18 dX13_ovenOf_14 rfl ?_
      refine x_pick [] rfl ?_
      exact hJ4 (s1 196 (zI p1).toNat)
theorem ct_X13_ovenOf (l : Launch) (E : xE) (n : Nat) (p1 : Int) (σ : xS)   : xMet l E yX13_ovenOf cX13_ovenOf 2 (some .int) { frames := 9, cells := 0, slots := 0, locals := 201 } [.ref (xqa E.2.2 184), iV p1] WW WW σ (xrS (m_X13_ovenOf n p1 σ)) := by
  refine xMet.of0 (by decide) (Nat.le_of_ble_eq_true rfl) rfl rfl (fun X hE C => ?_)
  subst hE
  exact xMap (fun q => (some (iV q.1), q.2)) (wk_X13_ovenOf C (fun _ _ => rfl) )
theorem mt_X13_ovenOf : xMth yX13_ovenOf cX13_ovenOf 2 (some .int) 1 := ⟨wd2025, wd164, ⟨by decide, by decide, rfl⟩⟩
theorem vr_X13_ovenOf : xVir yX13_ovenOf := ⟨wd2023, wd2024⟩
def m_X13_spoiledCount (n : Nat) (σ : xS) : Option (Int × xS) :=
  xbS (m_X13_isNight n σ) fun v2 s1 => xj (fun (q6 : Int) => some (q6, s1)) fun J4 => if (zI v2) = 0 then J4 (-2) else (m_X13_stateMany n 9 s1).bind fun v8 => J4 v8
set_option maxHeartbeats 4000000 in
set_option maxRecDepth 100000 in
theorem wk_X13_spoiledCount {X : xX} {Qf : (Int × xS) → State → Prop} {n : Nat} {σ : xS} (C : xCx X cX13_spoiledCount "BakeryNightModel" (some .int) { frames := 8, cells := 0, slots := 0, locals := 180 } 1) (hQ : ∀ v τ, Qf (v, τ) = xQf X WW (some (iV v), τ))  : WO X Qf WW σ 0 [(0, .ref (xqa (xXE X).2.2 184))] [] (m_X13_spoiledCount n σ) := by
  unfold m_X13_spoiledCount
  refine x_aload_n C 0 dX13_spoiledCount_0 rfl rfl ?_
  refine x_callV C (ct_X13_isNight _ _ n σ) mt_X13_isNight vr_X13_isNight wd2005 cls_X13 at_X13 rfl ⟨rfl, rfl, Nat.le_of_ble_eq_true rfl, Nat.le_of_ble_eq_true rfl⟩ rfl (by decide) dX13_spoiledCount_1 (kS (fun v2 s1 => ?_))
  refine x_join (fun J => ∀ q6 : Int, WO X Qf WW s1 18 [] [iV q6] (J q6)) ?_ ?_
  · intro q6
    exact x_iretQ C (hQ _ _) rfl dX13_spoiledCount_18
  · intro J4 hJ5
    refine x_if_eq C 16 rfl dX13_spoiledCount_4 rfl (fun c7 => x_op c7 ?_) (fun c7 => x_on c7 ?_)
    · refine x_bipush C (-2) dX13_spoiledCount_16 rfl ?_
      refine x_pick [] rfl ?_
      exact hJ5 (-2)
    · refine x_aload_n C 0 dX13_spoiledCount_7 rfl rfl ?_
      refine x_bipush C (9) dX13_spoiledCount_8 rfl ?_
      refine x_callV C (ct_X13_stateMany _ _ n 9 s1) mt_X13_stateMany vr_X13_stateMany wd1941 cls_X13 at_X13 rfl ⟨rfl, rfl, Nat.le_of_ble_eq_true rfl, Nat.le_of_ble_eq_true rfl⟩ rfl (by decide) dX13_spoiledCount_10 (kI (fun v8 => ?_))
      refine x_goto C 18 dX13_spoiledCount_13 rfl ?_
      refine x_pick [] rfl ?_
      exact hJ5 v8
theorem ct_X13_spoiledCount (l : Launch) (E : xE) (n : Nat) (σ : xS)   : xMet l E yX13_spoiledCount cX13_spoiledCount 1 (some .int) { frames := 8, cells := 0, slots := 0, locals := 180 } [.ref (xqa E.2.2 184)] WW WW σ (xrS (m_X13_spoiledCount n σ)) := by
  refine xMet.of0 (by decide) (Nat.le_of_ble_eq_true rfl) rfl rfl (fun X hE C => ?_)
  subst hE
  exact xMap (fun q => (some (iV q.1), q.2)) (wk_X13_spoiledCount C (fun _ _ => rfl) )
theorem mt_X13_spoiledCount : xMth yX13_spoiledCount cX13_spoiledCount 1 (some .int) 0 := ⟨wd2029, wd164, ⟨by decide, by decide, rfl⟩⟩
theorem vr_X13_spoiledCount : xVir yX13_spoiledCount := ⟨wd2027, wd2028⟩
def m_X13_changingMinutes (n : Nat) (p1 : Int) (σ : xS) : Option (Int × xS) :=
  xbS (m_X13_isNight n σ) fun v2 s1 => xj (fun (q6 : Int) => some (q6, s1)) fun J4 => if (zI v2) = 0 then J4 (-2) else (m_X13_isOven p1 s1).bind fun v8 => if (zI v8) = 0 then J4 (-1) else xck (zI p1) 4 <| J4 (s1 204 (zI p1).toNat)
set_option maxHeartbeats 4000000 in
set_option maxRecDepth 100000 in
theorem wk_X13_changingMinutes {X : xX} {Qf : (Int × xS) → State → Prop} {n : Nat} {p1 : Int} {σ : xS} (C : xCx X cX13_changingMinutes "BakeryNightModel" (some .int) { frames := 8, cells := 0, slots := 0, locals := 180 } 2) (hQ : ∀ v τ, Qf (v, τ) = xQf X WW (some (iV v), τ))  : WO X Qf WW σ 0 [(0, .ref (xqa (xXE X).2.2 184)), (1, iV p1)] [] (m_X13_changingMinutes n p1 σ) := by
  unfold m_X13_changingMinutes
  refine x_aload_n C 0 dX13_changingMinutes_0 rfl rfl ?_
  refine x_callV C (ct_X13_isNight _ _ n σ) mt_X13_isNight vr_X13_isNight wd2005 cls_X13 at_X13 rfl ⟨rfl, rfl, Nat.le_of_ble_eq_true rfl, Nat.le_of_ble_eq_true rfl⟩ rfl (by decide) dX13_changingMinutes_1 (kS (fun v2 s1 => ?_))
  refine x_join (fun J => ∀ q6 : Int, WO X Qf WW s1 30 [] [iV q6] (J q6)) ?_ ?_
  · intro q6
    exact x_iretQ C (hQ _ _) rfl dX13_changingMinutes_30
  · intro J4 hJ5
    refine x_if_ne C 12 rfl dX13_changingMinutes_4 rfl (fun c7 => x_on c7 ?_) (fun c7 => x_op c7 ?_)
    · refine x_aload_n C 0 dX13_changingMinutes_12 rfl rfl ?_
      refine x_iload_n C 1 dX13_changingMinutes_13 rfl rfl ?_
      refine x_callV C (ct_X13_isOven _ _ p1 s1) mt_X13_isOven vr_X13_isOven wd2034 cls_X13 at_X13 rfl ⟨rfl, rfl, Nat.le_of_ble_eq_true rfl, Nat.le_of_ble_eq_true rfl⟩ rfl (by decide) dX13_changingMinutes_14 (kI (fun v8 => ?_))
      refine x_if_eq C 29 rfl dX13_changingMinutes_17 rfl (fun c9 => x_op c9 ?_) (fun c9 => x_on c9 ?_)
      · refine x_iconst C (-1) dX13_changingMinutes_29 rfl ?_
        refine x_pick [] rfl ?_
        exact hJ5 (-1)
      · refine x_aload_n C 0 dX13_changingMinutes_20 rfl rfl ?_
        refine x_get (v := .ref (xqa (xXE X).2.2 204)) C 33 cls_X13 at_X13 (by decide) wd1535 rfl (xV_r (rt_X13_changes  _) rfl) dX13_changingMinutes_21 ?_
        refine x_iload_n C 1 dX13_changingMinutes_24 rfl rfl ?_
        refine x_iald C at_X13_changes rfl dX13_changingMinutes_25 (fun _ => ?_)
        refine x_goto C 30 dX13_changingMinutes_26 rfl ?_
        refine x_pick [] rfl ?_
        exact hJ5 (s1 204 (zI p1).toNat)
    · refine x_bipush C (-2) dX13_changingMinutes_7 rfl ?_
      refine x_goto C 30 dX13_changingMinutes_9 rfl ?_
      refine x_pick [] rfl ?_
      exact hJ5 (-2)
theorem ct_X13_changingMinutes (l : Launch) (E : xE) (n : Nat) (p1 : Int) (σ : xS)   : xMet l E yX13_changingMinutes cX13_changingMinutes 2 (some .int) { frames := 8, cells := 0, slots := 0, locals := 180 } [.ref (xqa E.2.2 184), iV p1] WW WW σ (xrS (m_X13_changingMinutes n p1 σ)) := by
  refine xMet.of0 (by decide) (Nat.le_of_ble_eq_true rfl) rfl rfl (fun X hE C => ?_)
  subst hE
  exact xMap (fun q => (some (iV q.1), q.2)) (wk_X13_changingMinutes C (fun _ _ => rfl) )
theorem mt_X13_changingMinutes : xMth yX13_changingMinutes cX13_changingMinutes 2 (some .int) 1 := ⟨wd2033, wd164, ⟨by decide, by decide, rfl⟩⟩
theorem vr_X13_changingMinutes : xVir yX13_changingMinutes := ⟨wd2031, wd2032⟩
def m_X13_bakingMinutes (n : Nat) (p1 : Int) (σ : xS) : Option (Int × xS) :=
  xbS (m_X13_isNight n σ) fun v2 s1 => if (zI v2) = 0 then some ((-2), s1) else (m_X13_isOven p1 s1).bind fun v4 => if (zI v4) = 0 then some ((-1), s1) else loopF (fun rec7 (t6 : Int × Int) => if (zI (s1 184 19)) ≤ (zI t6.2) then some (t6.1, s1) else xck (zI t6.2) 60 <| xj (fun (q12 : Int) => xlet (t6.1 + q12) fun v13 => xlet (t6.2 + 1) fun v14 => rec7 (v13, v14)) fun J10 => if (zI (s1 196 (zI t6.2).toNat)) = (zI p1) then xck (zI t6.2) 60 <| (m_X13_dough 185 (s1 192 (zI t6.2).toNat) 5 s1).bind fun v16 => J10 v16 else J10 0) n (0, 0)
set_option maxHeartbeats 4000000 in
set_option maxRecDepth 100000 in
theorem wk_X13_bakingMinutes {X : xX} {Qf : (Int × xS) → State → Prop} {n : Nat} {p1 : Int} {σ : xS} (C : xCx X cX13_bakingMinutes "BakeryNightModel" (some .int) { frames := 8, cells := 0, slots := 0, locals := 180 } 4) (hQ : ∀ v τ, Qf (v, τ) = xQf X WW (some (iV v), τ))  : WO X Qf WW σ 0 [(0, .ref (xqa (xXE X).2.2 184)), (1, iV p1)] [] (m_X13_bakingMinutes n p1 σ) := by
  unfold m_X13_bakingMinutes
  refine x_aload_n C 0 dX13_bakingMinutes_0 rfl rfl ?_
  refine x_callV C (ct_X13_isNight _ _ n σ) mt_X13_isNight vr_X13_isNight wd2005 cls_X13 at_X13 rfl ⟨rfl, rfl, Nat.le_of_ble_eq_true rfl, Nat.le_of_ble_eq_true rfl⟩ rfl (by decide) dX13_bakingMinutes_1 (kS (fun v2 s1 => ?_))
  refine x_if_ne C 10 rfl dX13_bakingMinutes_4 rfl (fun c3 => x_on c3 ?_) (fun c3 => x_op c3 ?_)
  · refine x_aload_n C 0 dX13_bakingMinutes_10 rfl rfl ?_
    refine x_iload_n C 1 dX13_bakingMinutes_11 rfl rfl ?_
    refine x_callV C (ct_X13_isOven _ _ p1 s1) mt_X13_isOven vr_X13_isOven wd2034 cls_X13 at_X13 rfl ⟨rfl, rfl, Nat.le_of_ble_eq_true rfl, Nat.le_of_ble_eq_true rfl⟩ rfl (by decide) dX13_bakingMinutes_12 (kI (fun v4 => ?_))
    refine x_if_ne C 20 rfl dX13_bakingMinutes_15 rfl (fun c5 => x_on c5 ?_) (fun c5 => x_op c5 ?_)
    · refine x_iconst C (0) dX13_bakingMinutes_20 rfl ?_
      refine x_istore_n (L' := [(2, _), (0, _), (1, _)]) C dX13_bakingMinutes_21 rfl (by decide) rfl ?_
      refine x_iconst C (0) dX13_bakingMinutes_22 rfl ?_
      refine x_istore_n (L' := [(3, _), (2, _), (0, _), (1, _)]) C dX13_bakingMinutes_23 rfl (by decide) rfl ?_
      refine x_pick [2, 3, 1, 0] rfl ?_
      refine x_loop (fun t6 : Int × Int => s1) (fun t6 : Int × Int => [(0, .ref (xqa (xXE X).2.2 184)), (1, iV p1), (2, iV t6.1), (3, iV t6.2)]) (fun rec7 hr8 t6 => ?_) n (0, 0)
      refine x_iload_n C 3 dX13_bakingMinutes_24 rfl rfl ?_
      refine x_aload_n C 0 dX13_bakingMinutes_25 rfl rfl ?_
      refine x_get (v := iV (s1 184 19)) C 19 cls_X13 at_X13 (by decide) wd1521 rfl rfl dX13_bakingMinutes_26 ?_
      refine x_icmp_ge C 70 rfl rfl dX13_bakingMinutes_29 rfl (fun c9 => x_op c9 ?_) (fun c9 => x_on c9 ?_)
      · refine x_iload_n C 2 dX13_bakingMinutes_70 rfl rfl ?_
        exact x_iretQ C (hQ _ _) rfl dX13_bakingMinutes_71
      · refine x_iload_n C 2 dX13_bakingMinutes_32 rfl rfl ?_
        refine x_aload_n C 0 dX13_bakingMinutes_33 rfl rfl ?_
        refine x_get (v := .ref (xqa (xXE X).2.2 196)) C 23 cls_X13 at_X13 (by decide) wd1525 rfl (xV_r (rt_X13_inOven  _) rfl) dX13_bakingMinutes_34 ?_
        refine x_iload_n C 3 dX13_bakingMinutes_37 rfl rfl ?_
        refine x_iald C at_X13_inOven rfl dX13_bakingMinutes_38 (fun _ => ?_)
        refine x_iload_n C 1 dX13_bakingMinutes_39 rfl rfl ?_
        refine x_join (fun J => ∀ q12 : Int, WO X Qf WW s1 62 [(0, .ref (xqa (xXE X).2.2 184)), (1, iV p1), (3, iV t6.2)] [iV q12, iV t6.1] (J q12)) ?_ ?_
        · intro q12
          refine x_iadd C dX13_bakingMinutes_62 ?_
          refine x_letI (fun v13 => ?_)
          refine x_istore_n (L' := [(2, _), (0, _), (1, _), (3, _)]) C dX13_bakingMinutes_63 rfl (by decide) rfl ?_
          refine x_inc C 3 (f := _) dX13_bakingMinutes_64 rfl (by decide) (1) rfl (fun v14 => ?_)
          refine x_reL (L' := [(3, _), (2, _), (0, _), (1, _)]) rfl ?_
          refine x_goto C 24 dX13_bakingMinutes_67 rfl ?_
          refine x_pick [2, 3, 1, 0] rfl ?_
          exact hr8 (v13, v14)
        · intro J10 hJ11
          refine x_icmp_ne C 61 rfl rfl dX13_bakingMinutes_40 rfl (fun c15 => x_on c15 ?_) (fun c15 => x_op c15 ?_)
          · refine x_iconst C (0) dX13_bakingMinutes_61 rfl ?_
            refine x_pick [0, 1, 3] rfl ?_
            exact hJ11 0
          · refine x_aload_n C 0 dX13_bakingMinutes_43 rfl rfl ?_
            refine x_aload_n C 0 dX13_bakingMinutes_44 rfl rfl ?_
            refine x_get (v := .ref (xqa (xXE X).2.2 185)) C 0 cls_X13 at_X13 (by decide) wd1502 rfl (xV_r (rt_X13_bakery  _) rfl) dX13_bakingMinutes_45 ?_
            refine x_aload_n C 0 dX13_bakingMinutes_48 rfl rfl ?_
            refine x_get (v := .ref (xqa (xXE X).2.2 192)) C 18 cls_X13 at_X13 (by decide) wd1520 rfl (xV_r (rt_X13_batchDough  _) rfl) dX13_bakingMinutes_49 ?_
            refine x_iload_n C 3 dX13_bakingMinutes_52 rfl rfl ?_
            refine x_iald C at_X13_batchDough rfl dX13_bakingMinutes_53 (fun _ => ?_)
            refine x_iconst C (5) dX13_bakingMinutes_54 rfl ?_
            refine x_callV C (ct_X13_dough _ _ 185 (s1 192 (zI t6.2).toNat) 5 s1 at_X13_bakery) mt_X13_dough vr_X13_dough wd1895 cls_X13 at_X13 rfl ⟨rfl, rfl, Nat.le_of_ble_eq_true rfl, Nat.le_of_ble_eq_true rfl⟩ rfl (Nat.le_of_ble_eq_true rfl) dX13_bakingMinutes_55 (kI (fun v16 => ?_))
            refine x_goto C 62 dX13_bakingMinutes_58 rfl ?_
            refine x_pick [0, 1, 3] rfl ?_
            exact hJ11 v16
    · refine x_iconst C (-1) dX13_bakingMinutes_18 rfl ?_
      exact x_iretQ C (hQ _ _) rfl dX13_bakingMinutes_19
  · refine x_bipush C (-2) dX13_bakingMinutes_7 rfl ?_
    exact x_iretQ C (hQ _ _) rfl dX13_bakingMinutes_9
theorem ct_X13_bakingMinutes (l : Launch) (E : xE) (n : Nat) (p1 : Int) (σ : xS)   : xMet l E yX13_bakingMinutes cX13_bakingMinutes 4 (some .int) { frames := 8, cells := 0, slots := 0, locals := 180 } [.ref (xqa E.2.2 184), iV p1] WW WW σ (xrS (m_X13_bakingMinutes n p1 σ)) := by
  refine xMet.of0 (by decide) (Nat.le_of_ble_eq_true rfl) rfl rfl (fun X hE C => ?_)
  subst hE
  exact xMap (fun q => (some (iV q.1), q.2)) (wk_X13_bakingMinutes C (fun _ _ => rfl) )
theorem mt_X13_bakingMinutes : xMth yX13_bakingMinutes cX13_bakingMinutes 4 (some .int) 1 := ⟨wd2041, wd164, ⟨by decide, by decide, rfl⟩⟩
theorem vr_X13_bakingMinutes : xVir yX13_bakingMinutes := ⟨wd2039, wd2040⟩
def m_X13_waitingMinutes (n : Nat) (p1 : Int) (σ : xS) : Option (Int × xS) :=
  xbS (m_X13_isNight n σ) fun v2 s1 => if (zI v2) = 0 then some ((-2), s1) else xlet (if (zI p1) = 0 then s1 184 36 else if (zI p1) = 1 then s1 184 37 else if (zI p1) = 2 then s1 184 38 else (-1)) fun v4 => some (v4, s1)
set_option maxHeartbeats 4000000 in
set_option maxRecDepth 100000 in
theorem wk_X13_waitingMinutes {X : xX} {Qf : (Int × xS) → State → Prop} {n : Nat} {p1 : Int} {σ : xS} (C : xCx X cX13_waitingMinutes "BakeryNightModel" (some .int) { frames := 8, cells := 0, slots := 0, locals := 180 } 2) (hQ : ∀ v τ, Qf (v, τ) = xQf X WW (some (iV v), τ))  : WO X Qf WW σ 0 [(0, .ref (xqa (xXE X).2.2 184)), (1, iV p1)] [] (m_X13_waitingMinutes n p1 σ) := by
  unfold m_X13_waitingMinutes
  refine x_aload_n C 0 dX13_waitingMinutes_0 rfl rfl ?_
  refine x_callV C (ct_X13_isNight _ _ n σ) mt_X13_isNight vr_X13_isNight wd2005 cls_X13 at_X13 rfl ⟨rfl, rfl, Nat.le_of_ble_eq_true rfl, Nat.le_of_ble_eq_true rfl⟩ rfl (by decide) dX13_waitingMinutes_1 (kS (fun v2 s1 => ?_))
  refine x_if_ne C 10 rfl dX13_waitingMinutes_4 rfl (fun c3 => x_on c3 ?_) (fun c3 => x_op c3 ?_)
  · refine x_iload_n C 1 dX13_waitingMinutes_10 rfl rfl ?_
    refine x_tree 46 [] (fun v4 => ?_) (fun hJ5 => ?_)
    · exact x_iretQ C (hQ _ _) rfl dX13_waitingMinutes_46
    · refine x_if_ne C 21 rfl dX13_waitingMinutes_11 rfl (fun c6 => ?_) (fun c6 => ?_)
      · refine x_iload_n C 1 dX13_waitingMinutes_21 rfl rfl ?_
        refine x_iconst C (1) dX13_waitingMinutes_22 rfl ?_
        refine x_icmp_ne C 33 rfl (zIl _ rfl) dX13_waitingMinutes_23 rfl (fun c7 => ?_) (fun c7 => ?_)
        · refine x_iload_n C 1 dX13_waitingMinutes_33 rfl rfl ?_
          refine x_iconst C (2) dX13_waitingMinutes_34 rfl ?_
          refine x_icmp_ne C 45 rfl (zIl _ rfl) dX13_waitingMinutes_35 rfl (fun c8 => ?_) (fun c8 => ?_)
          · refine x_iconst C (-1) dX13_waitingMinutes_45 rfl ?_
            exact hJ5 _ (by rw [if_neg c6, if_neg c7, if_neg c8])
          · refine x_aload_n C 0 dX13_waitingMinutes_38 rfl rfl ?_
            refine x_get (v := iV (s1 184 38)) C 38 cls_X13 at_X13 (by decide) wd1540 rfl rfl dX13_waitingMinutes_39 ?_
            refine x_goto C 46 dX13_waitingMinutes_42 rfl ?_
            exact hJ5 _ (by rw [if_neg c6, if_neg c7, if_pos c8])
        · refine x_aload_n C 0 dX13_waitingMinutes_26 rfl rfl ?_
          refine x_get (v := iV (s1 184 37)) C 37 cls_X13 at_X13 (by decide) wd1539 rfl rfl dX13_waitingMinutes_27 ?_
          refine x_goto C 46 dX13_waitingMinutes_30 rfl ?_
          exact hJ5 _ (by rw [if_neg c6, if_pos c7])
      · refine x_aload_n C 0 dX13_waitingMinutes_14 rfl rfl ?_
        refine x_get (v := iV (s1 184 36)) C 36 cls_X13 at_X13 (by decide) wd1538 rfl rfl dX13_waitingMinutes_15 ?_
        refine x_goto C 46 dX13_waitingMinutes_18 rfl ?_
        exact hJ5 _ (by rw [if_pos c6])
  · refine x_bipush C (-2) dX13_waitingMinutes_7 rfl ?_
    exact x_iretQ C (hQ _ _) rfl dX13_waitingMinutes_9
theorem ct_X13_waitingMinutes (l : Launch) (E : xE) (n : Nat) (p1 : Int) (σ : xS)   : xMet l E yX13_waitingMinutes cX13_waitingMinutes 2 (some .int) { frames := 8, cells := 0, slots := 0, locals := 180 } [.ref (xqa E.2.2 184), iV p1] WW WW σ (xrS (m_X13_waitingMinutes n p1 σ)) := by
  refine xMet.of0 (by decide) (Nat.le_of_ble_eq_true rfl) rfl rfl (fun X hE C => ?_)
  subst hE
  exact xMap (fun q => (some (iV q.1), q.2)) (wk_X13_waitingMinutes C (fun _ _ => rfl) )
theorem mt_X13_waitingMinutes : xMth yX13_waitingMinutes cX13_waitingMinutes 2 (some .int) 1 := ⟨wd2045, wd164, ⟨by decide, by decide, rfl⟩⟩
theorem vr_X13_waitingMinutes : xVir yX13_waitingMinutes := ⟨wd2043, wd2044⟩
def m_X13_uses (p1 : Int) (p2 : Int) (p3 : Int) (σ : xS) : Option Int :=
  (m_X13_stageOf p1 (2 * p2) σ).bind fun v1 => xj (fun (q6 : Int) => xbo q6 (some q6)) fun J4 => xj (fun (q9 : Unit) => J4 0) fun J7 => if (zI v1) = (-1) then J7 () else if (zI p3) < (zI v1) then J7 () else (m_X13_stageOf p1 ((2 * p2) + 1) σ).bind fun v12 => if (zI v12) ≤ (zI p3) then J7 () else J4 1
set_option maxHeartbeats 4000000 in
set_option maxRecDepth 100000 in
theorem wk_X13_uses {X : xX} {Qf : Int → State → Prop} {p1 : Int} {p2 : Int} {p3 : Int} {σ : xS} (C : xCx X cX13_uses "BakeryNightModel" (some .boolean) { frames := 1, cells := 0, slots := 0, locals := 22 } 5) (hQ : ∀ v, Qf v = xQf X WW (some (iV v), σ))  : WO X Qf WW σ 0 [(0, .ref (xqa (xXE X).2.2 184)), (1, iV p1), (2, iV p2), (3, iV p3)] [] (m_X13_uses p1 p2 p3 σ) := by
  unfold m_X13_uses
  refine x_aload_n C 0 dX13_uses_0 rfl rfl ?_
  refine x_iload_n C 1 dX13_uses_1 rfl rfl ?_
  refine x_iconst C (2) dX13_uses_2 rfl ?_
  refine x_iload_n C 2 dX13_uses_3 rfl rfl ?_
  refine x_imul C dX13_uses_4 ?_
  refine x_callV C (ct_X13_stageOf _ _ p1 (2 * p2) σ) mt_X13_stageOf vr_X13_stageOf wd2018 cls_X13 at_X13 rfl ⟨rfl, rfl, Nat.le_of_ble_eq_true rfl, Nat.le_of_ble_eq_true rfl⟩ rfl (by decide) dX13_uses_5 (kI (fun v1 => ?_))
  refine x_istore (L' := [(4, _), (0, _), (1, _), (2, _), (3, _)]) C dX13_uses_8 (by decide) rfl ?_
  refine x_iload C 0 dX13_uses_10 rfl ?_
  refine x_iconst C (-1) dX13_uses_12 rfl ?_
  refine x_join (fun J => ∀ q6 : Int, WO X Qf WW σ 41 [] [iV q6] (J q6)) ?_ ?_
  · intro q6
    exact x_bo (fun hb => x_zretQ C (hQ _) rfl hb dX13_uses_41)
  · intro J4 hJ5
    refine x_join (fun J => ∀ q9 : Unit, WO X Qf WW σ 40 [] [] (J q9)) ?_ ?_
    · intro q9
      refine x_iconst C (0) dX13_uses_40 rfl ?_
      refine x_pick [] rfl ?_
      exact hJ5 0
    · intro J7 hJ8
      refine x_icmp_eq C 40 rfl (zIl _ rfl) dX13_uses_13 rfl (fun c10 => x_op c10 ?_) (fun c10 => x_on c10 ?_)
      · refine x_pick [] rfl ?_
        exact hJ8 ()
      · refine x_iload C 0 dX13_uses_16 rfl ?_
        refine x_iload_n C 4 dX13_uses_18 rfl rfl ?_
        refine x_icmp_gt C 40 rfl rfl dX13_uses_19 rfl (fun c11 => x_op c11 ?_) (fun c11 => x_on c11 ?_)
        · refine x_pick [] rfl ?_
          exact hJ8 ()
        · refine x_aload_n C 1 dX13_uses_22 rfl rfl ?_
          refine x_iload_n C 2 dX13_uses_23 rfl rfl ?_
          refine x_iconst C (2) dX13_uses_24 rfl ?_
          refine x_iload_n C 3 dX13_uses_25 rfl rfl ?_
          refine x_imul C dX13_uses_26 ?_
          refine x_iconst C (1) dX13_uses_27 rfl ?_
          refine x_iadd C dX13_uses_28 ?_
          refine x_callV C (ct_X13_stageOf _ _ p1 ((2 * p2) + 1) σ) mt_X13_stageOf vr_X13_stageOf wd2018 cls_X13 at_X13 rfl ⟨rfl, rfl, Nat.le_of_ble_eq_true rfl, Nat.le_of_ble_eq_true rfl⟩ rfl (by decide) dX13_uses_29 (kI (fun v12 => ?_))
          refine x_iload_n C 4 dX13_uses_32 rfl rfl ?_
          refine x_icmp_le C 40 rfl rfl dX13_uses_33 rfl (fun c13 => x_op c13 ?_) (fun c13 => x_on c13 ?_)
          · refine x_pick [] rfl ?_
            exact hJ8 ()
          · refine x_iconst C (1) dX13_uses_36 rfl ?_
            refine x_goto C 41 dX13_uses_37 rfl ?_
            refine x_pick [] rfl ?_
            exact hJ5 1
theorem ct_X13_uses (l : Launch) (E : xE) (p1 : Int) (p2 : Int) (p3 : Int) (σ : xS)   : xMet l E yX13_uses cX13_uses 5 (some .boolean) { frames := 1, cells := 0, slots := 0, locals := 22 } [.ref (xqa E.2.2 184), iV p1, iV p2, iV p3] WW WW σ (xrI (m_X13_uses p1 p2 p3 σ) σ) := by
  refine xMet.of0 (by decide) (Nat.le_of_ble_eq_true rfl) rfl rfl (fun X hE C => ?_)
  subst hE
  exact xMap (fun v => (some (iV v), σ)) (wk_X13_uses C (fun _ => rfl) )
theorem mt_X13_uses : xMth yX13_uses cX13_uses 5 (some .boolean) 3 := ⟨wd2053, wd164, ⟨by decide, by decide, rfl⟩⟩
theorem vr_X13_uses : xVir yX13_uses := ⟨wd2052, wd118⟩
def m_X13_inUse (n : Nat) (p1 : Int) (p2 : Int) (σ : xS) : Option Int :=
  loopF (fun rec2 (t1 : Int × Int) => if (zI (σ 184 19)) ≤ (zI t1.2) then some t1.1 else (m_X13_uses t1.2 p1 p2 σ).bind fun v5 => xlet (if (zI v5) = 0 then 0 else 1) fun v6 => xlet (t1.1 + v6) fun v7 => xlet (t1.2 + 1) fun v8 => rec2 (v7, v8)) n (0, 0)
set_option maxHeartbeats 4000000 in
set_option maxRecDepth 100000 in
theorem wk_X13_inUse {X : xX} {Qf : Int → State → Prop} {n : Nat} {p1 : Int} {p2 : Int} {σ : xS} (C : xCx X cX13_inUse "BakeryNightModel" (some .int) { frames := 2, cells := 0, slots := 0, locals := 46 } 5) (hQ : ∀ v, Qf v = xQf X WW (some (iV v), σ))  : WO X Qf WW σ 0 [(0, .ref (xqa (xXE X).2.2 184)), (1, iV p1), (2, iV p2)] [] (m_X13_inUse n p1 p2 σ) := by
  unfold m_X13_inUse
  refine x_iconst C (0) dX13_inUse_0 rfl ?_
  refine x_istore_n (L' := [(3, _), (0, _), (1, _), (2, _)]) C dX13_inUse_1 rfl (by decide) rfl ?_
  refine x_iconst C (0) dX13_inUse_2 rfl ?_
  refine x_istore (L' := [(4, _), (3, _), (0, _), (1, _), (2, _)]) C dX13_inUse_3 (by decide) rfl ?_
  refine x_pick [2, 3, 4, 1, 0] rfl ?_
  refine x_loop (fun t1 : Int × Int => σ) (fun t1 : Int × Int => [(0, .ref (xqa (xXE X).2.2 184)), (1, iV p1), (2, iV p2), (3, iV t1.1), (4, iV t1.2)]) (fun rec2 hr3 t1 => ?_) n (0, 0)
  refine x_iload C 4 dX13_inUse_5 rfl ?_
  refine x_aload_n C 0 dX13_inUse_7 rfl rfl ?_
  refine x_get (v := iV (σ 184 19)) C 19 cls_X13 at_X13 (by decide) wd1521 rfl rfl dX13_inUse_8 ?_
  refine x_icmp_ge C 39 rfl rfl dX13_inUse_11 rfl (fun c4 => x_op c4 ?_) (fun c4 => x_on c4 ?_)
  · refine x_iload_n C 3 dX13_inUse_39 rfl rfl ?_
    exact x_iretQ C (hQ _) rfl dX13_inUse_40
  · refine x_iload_n C 3 dX13_inUse_14 rfl rfl ?_
    refine x_aload_n C 0 dX13_inUse_15 rfl rfl ?_
    refine x_iload C 4 dX13_inUse_16 rfl ?_
    refine x_iload_n C 1 dX13_inUse_18 rfl rfl ?_
    refine x_iload_n C 2 dX13_inUse_19 rfl rfl ?_
    refine x_callV C (ct_X13_uses _ _ t1.2 p1 p2 σ) mt_X13_uses vr_X13_uses wd2050 cls_X13 at_X13 rfl ⟨rfl, rfl, Nat.le_of_ble_eq_true rfl, Nat.le_of_ble_eq_true rfl⟩ rfl (Nat.le_of_ble_eq_true rfl) dX13_inUse_20 (kI (fun v5 => ?_))
    refine x_tree 31 [iV t1.1] (fun v6 => ?_) (fun hJ9 => ?_)
    · refine x_iadd C dX13_inUse_31 ?_
      refine x_letI (fun v7 => ?_)
      refine x_istore_n (L' := [(3, _), (0, _), (1, _), (2, _), (4, _)]) C dX13_inUse_32 rfl (by decide) rfl ?_
      refine x_inc C 4 (f := _) dX13_inUse_33 rfl (by decide) (1) rfl (fun v8 => ?_)
      refine x_reL (L' := [(4, _), (3, _), (0, _), (1, _), (2, _)]) rfl ?_
      refine x_goto C 5 dX13_inUse_36 rfl ?_
      refine x_pick [2, 3, 4, 1, 0] rfl ?_
      exact hr3 (v7, v8)
    · refine x_if_eq C 30 rfl dX13_inUse_23 rfl (fun c10 => ?_) (fun c10 => ?_)
      · refine x_iconst C (0) dX13_inUse_30 rfl ?_
        exact hJ9 _ (by rw [if_pos c10])
      · refine x_iconst C (1) dX13_inUse_26 rfl ?_
        refine x_goto C 31 dX13_inUse_27 rfl ?_
        exact hJ9 _ (by rw [if_neg c10])
theorem ct_X13_inUse (l : Launch) (E : xE) (n : Nat) (p1 : Int) (p2 : Int) (σ : xS)   : xMet l E yX13_inUse cX13_inUse 5 (some .int) { frames := 2, cells := 0, slots := 0, locals := 46 } [.ref (xqa E.2.2 184), iV p1, iV p2] WW WW σ (xrI (m_X13_inUse n p1 p2 σ) σ) := by
  refine xMet.of0 (by decide) (Nat.le_of_ble_eq_true rfl) rfl rfl (fun X hE C => ?_)
  subst hE
  exact xMap (fun v => (some (iV v), σ)) (wk_X13_inUse C (fun _ => rfl) )
theorem mt_X13_inUse : xMth yX13_inUse cX13_inUse 5 (some .int) 2 := ⟨wd2062, wd164, ⟨by decide, by decide, rfl⟩⟩
theorem vr_X13_inUse : xVir yX13_inUse := ⟨wd2061, wd119⟩
