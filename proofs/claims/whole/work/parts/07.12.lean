def m_X13_many (n : Nat) (p1 : Int) (σ : xS) : Option xS :=
  xck (zI p1) 289 <| xj (fun (q4 : xS) => if (m_X13_fine q4) = 0 then some q4 else (m_X13_skipsWord n q4).bind fun s6 => xj (fun (q10 : xS) => xck (zI p1) 289 <| xck (zI p1) 289 <| xlet (xput q10 186 (zI p1).toNat ((q10 186 (zI p1).toNat) + 1)) fun s11 => some s11) fun J8 => if (zI p1) = 4 then (m_X13_doughStatement n s6).bind fun s26 => J8 s26 else if (zI p1) = 5 then (m_X13_ovenStatement n s6).bind fun s25 => J8 s25 else if (zI p1) = 6 then xck 6 289 <| xck 6 289 <| xbS (m_X13_fresh n 191 7 (s6 186 (6 : Int).toNat) s6) fun v23 s22 => xck (zI (s6 186 (6 : Int).toNat)) 7 <| xlet (xput s22 191 (zI (s6 186 (6 : Int).toNat)).toNat v23) fun s24 => J8 s24 else if (zI p1) = 7 then (m_X13_streetStatement n s6).bind fun s21 => J8 s21 else if (zI p1) = 8 then xck 8 289 <| xbS (m_X13_number n 1 2000 s6) fun v19 s18 => xck (zI (166 + (s6 186 (8 : Int).toNat))) 289 <| xlet (xput s18 186 (zI (166 + (s6 186 (8 : Int).toNat))).toNat v19) fun s20 => J8 s20 else (m_X13_orderStatement n s6).bind fun s17 => J8 s17) fun J2 => if (zI (σ 186 (zI p1).toNat)) = (zI (m_X13_mostOf p1)) then (m_X13_faulty 5 (σ 184 11) σ).bind fun s28 => J2 s28 else J2 σ
set_option maxHeartbeats 4000000 in
set_option maxRecDepth 100000 in
theorem wk_X13_many {X : xX} {Qf : xS → State → Prop} {n : Nat} {p1 : Int} {σ : xS} (C : xCx X cX13_many "BakeryNightModel" none { frames := 11, cells := 0, slots := 0, locals := 239 } 2) (hQ : ∀ τ, Qf τ = xQf X WW (none, τ))  : WO X Qf WW σ 0 [(0, .ref (xqa (xXE X).2.2 184)), (1, iV p1)] [] (m_X13_many n p1 σ) := by
  unfold m_X13_many
  refine x_aload_n C 0 dX13_many_0 rfl rfl ?_
  refine x_get (v := .ref (xqa (xXE X).2.2 186)) C 1 cls_X13 at_X13 (by decide) wd1503 rfl (xV_r (rt_X13_draft  _) rfl) dX13_many_1 ?_
  refine x_iload_n C 1 dX13_many_4 rfl rfl ?_
  refine x_iald C at_X13_draft rfl dX13_many_5 (fun _ => ?_)
  refine x_aload_n C 0 dX13_many_6 rfl rfl ?_
  refine x_iload_n C 1 dX13_many_7 rfl rfl ?_
  refine x_callV C (ct_X13_mostOf _ _ p1 σ) mt_X13_mostOf vr_X13_mostOf wd1768 cls_X13 at_X13 rfl ⟨rfl, rfl, Nat.le_of_ble_eq_true rfl, Nat.le_of_ble_eq_true rfl⟩ rfl (Nat.le_of_ble_eq_true rfl) dX13_many_8 (kP ?_)
  refine x_join (fun J => ∀ q4 : xS, WO X Qf WW q4 23 [(0, .ref (xqa (xXE X).2.2 184)), (1, iV p1)] [] (J q4)) ?_ ?_
  · intro q4
    refine x_aload_n C 0 dX13_many_23 rfl rfl ?_
    refine x_callV C (ct_X13_fine _ _ q4) mt_X13_fine vr_X13_fine wd1700 cls_X13 at_X13 rfl ⟨rfl, rfl, Nat.le_of_ble_eq_true rfl, Nat.le_of_ble_eq_true rfl⟩ rfl (by decide) dX13_many_24 (kP ?_)
    refine x_if_ne C 31 (zI_bo (bo_X13_fine _)) dX13_many_27 rfl (fun c5 => x_on c5 ?_) (fun c5 => x_op c5 ?_)
    · refine x_aload_n C 0 dX13_many_31 rfl rfl ?_
      refine x_callV C (ct_X13_skipsWord _ _ n q4) mt_X13_skipsWord vr_X13_skipsWord wd1754 cls_X13 at_X13 rfl ⟨rfl, rfl, Nat.le_of_ble_eq_true rfl, Nat.le_of_ble_eq_true rfl⟩ rfl (by decide) dX13_many_32 (kV (fun s6 => ?_))
      refine x_iload_n C 1 dX13_many_35 rfl rfl ?_
      refine x_iconst C (4) dX13_many_36 rfl ?_
      refine x_join (fun J => ∀ q10 : xS, WO X Qf WW q10 145 [(0, .ref (xqa (xXE X).2.2 184)), (1, iV p1)] [] (J q10)) ?_ ?_
      · intro q10
        refine x_aload_n C 0 dX13_many_145 rfl rfl ?_
        refine x_get (v := .ref (xqa (xXE X).2.2 186)) C 1 cls_X13 at_X13 (by decide) wd1503 rfl (xV_r (rt_X13_draft  _) rfl) dX13_many_146 ?_
        refine x_iload_n C 1 dX13_many_149 rfl rfl ?_
        refine x_aload_n C 0 dX13_many_150 rfl rfl ?_
        refine x_get (v := .ref (xqa (xXE X).2.2 186)) C 1 cls_X13 at_X13 (by decide) wd1503 rfl (xV_r (rt_X13_draft  _) rfl) dX13_many_151 ?_
        refine x_iload_n C 1 dX13_many_154 rfl rfl ?_
        refine x_iald C at_X13_draft rfl dX13_many_155 (fun _ => ?_)
        refine x_iconst C (1) dX13_many_156 rfl ?_
        refine x_iadd C dX13_many_157 ?_
        refine x_iast C at_X13_draft rfl dX13_many_158 (fun _ => ?_)
        refine x_letS (fun s11 => ?_)
        exact x_vretQ C (hQ _) rfl dX13_many_159
      · intro J8 hJ9
        refine x_icmp_ne C 47 rfl (zIl _ rfl) dX13_many_37 rfl (fun c12 => x_on c12 ?_) (fun c12 => x_op c12 ?_)
        · refine x_iload_n C 1 dX13_many_47 rfl rfl ?_
          refine x_iconst C (5) dX13_many_48 rfl ?_
          refine x_icmp_ne C 59 rfl (zIl _ rfl) dX13_many_49 rfl (fun c13 => x_on c13 ?_) (fun c13 => x_op c13 ?_)
          · refine x_iload_n C 1 dX13_many_59 rfl rfl ?_
            refine x_bipush C (6) dX13_many_60 rfl ?_
            refine x_icmp_ne C 95 rfl (zIl _ rfl) dX13_many_62 rfl (fun c14 => x_on c14 ?_) (fun c14 => x_op c14 ?_)
            · refine x_iload_n C 1 dX13_many_95 rfl rfl ?_
              refine x_bipush C (7) dX13_many_96 rfl ?_
              refine x_icmp_ne C 108 rfl (zIl _ rfl) dX13_many_98 rfl (fun c15 => x_on c15 ?_) (fun c15 => x_op c15 ?_)
              · refine x_iload_n C 1 dX13_many_108 rfl rfl ?_
                refine x_bipush C (8) dX13_many_109 rfl ?_
                refine x_icmp_ne C 141 rfl (zIl _ rfl) dX13_many_111 rfl (fun c16 => x_on c16 ?_) (fun c16 => x_op c16 ?_)
                · refine x_aload_n C 0 dX13_many_141 rfl rfl ?_
                  refine x_callV C (ct_X13_orderStatement _ _ n s6) mt_X13_orderStatement vr_X13_orderStatement wd1839 cls_X13 at_X13 rfl ⟨rfl, rfl, Nat.le_of_ble_eq_true rfl, Nat.le_of_ble_eq_true rfl⟩ rfl (by decide) dX13_many_142 (kV (fun s17 => ?_))
                  refine x_pick [0, 1] rfl ?_
                  exact hJ9 s17
                · refine x_aload_n C 0 dX13_many_114 rfl rfl ?_
                  refine x_get (v := .ref (xqa (xXE X).2.2 186)) C 1 cls_X13 at_X13 (by decide) wd1503 rfl (xV_r (rt_X13_draft  _) rfl) dX13_many_115 ?_
                  refine x_sipush C (166) dX13_many_118 rfl ?_
                  refine x_aload_n C 0 dX13_many_121 rfl rfl ?_
                  refine x_get (v := .ref (xqa (xXE X).2.2 186)) C 1 cls_X13 at_X13 (by decide) wd1503 rfl (xV_r (rt_X13_draft  _) rfl) dX13_many_122 ?_
                  refine x_bipush C (8) dX13_many_125 rfl ?_
                  refine x_iald C at_X13_draft (zIl _ rfl) dX13_many_127 (fun _ => ?_)
                  refine x_iadd C dX13_many_128 ?_
                  refine x_aload_n C 0 dX13_many_129 rfl rfl ?_
                  refine x_iconst C (1) dX13_many_130 rfl ?_
                  refine x_sipush C (2000) dX13_many_131 rfl ?_
                  refine x_callV C (ct_X13_number _ _ n 1 2000 s6) mt_X13_number vr_X13_number wd1758 cls_X13 at_X13 rfl ⟨rfl, rfl, Nat.le_of_ble_eq_true rfl, Nat.le_of_ble_eq_true rfl⟩ rfl (Nat.le_of_ble_eq_true rfl) dX13_many_134 (kS (fun v19 s18 => ?_))
                  refine x_iast C at_X13_draft rfl dX13_many_137 (fun _ => ?_)
                  refine x_letS (fun s20 => ?_)
                  refine x_goto C 145 dX13_many_138 rfl ?_
                  refine x_pick [0, 1] rfl ?_
                  exact hJ9 s20
              · refine x_aload_n C 0 dX13_many_101 rfl rfl ?_
                refine x_callV C (ct_X13_streetStatement _ _ n s6) mt_X13_streetStatement vr_X13_streetStatement wd1823 cls_X13 at_X13 rfl ⟨rfl, rfl, Nat.le_of_ble_eq_true rfl, Nat.le_of_ble_eq_true rfl⟩ rfl (by decide) dX13_many_102 (kV (fun s21 => ?_))
                refine x_goto C 145 dX13_many_105 rfl ?_
                refine x_pick [0, 1] rfl ?_
                exact hJ9 s21
            · refine x_aload_n C 0 dX13_many_65 rfl rfl ?_
              refine x_get (v := .ref (xqa (xXE X).2.2 191)) C 16 cls_X13 at_X13 (by decide) wd1518 rfl (xV_r (rt_X13_shopName  _) rfl) dX13_many_66 ?_
              refine x_aload_n C 0 dX13_many_69 rfl rfl ?_
              refine x_get (v := .ref (xqa (xXE X).2.2 186)) C 1 cls_X13 at_X13 (by decide) wd1503 rfl (xV_r (rt_X13_draft  _) rfl) dX13_many_70 ?_
              refine x_bipush C (6) dX13_many_73 rfl ?_
              refine x_iald C at_X13_draft (zIl _ rfl) dX13_many_75 (fun _ => ?_)
              refine x_aload_n C 0 dX13_many_76 rfl rfl ?_
              refine x_aload_n C 0 dX13_many_77 rfl rfl ?_
              refine x_get (v := .ref (xqa (xXE X).2.2 191)) C 16 cls_X13 at_X13 (by decide) wd1518 rfl (xV_r (rt_X13_shopName  _) rfl) dX13_many_78 ?_
              refine x_aload_n C 0 dX13_many_81 rfl rfl ?_
              refine x_get (v := .ref (xqa (xXE X).2.2 186)) C 1 cls_X13 at_X13 (by decide) wd1503 rfl (xV_r (rt_X13_draft  _) rfl) dX13_many_82 ?_
              refine x_bipush C (6) dX13_many_85 rfl ?_
              refine x_iald C at_X13_draft (zIl _ rfl) dX13_many_87 (fun _ => ?_)
              refine x_callV C (ct_X13_fresh _ _ n 191 7 (s6 186 (6 : Int).toNat) s6 at_X13_shopName) mt_X13_fresh vr_X13_fresh wd1776 cls_X13 at_X13 rfl ⟨rfl, rfl, Nat.le_of_ble_eq_true rfl, Nat.le_of_ble_eq_true rfl⟩ rfl (Nat.le_of_ble_eq_true rfl) dX13_many_88 (kT (fun v23 s22 => ?_))
              refine x_last C at_X13_shopName rfl dX13_many_91 (fun _ => ?_)
              refine x_letS (fun s24 => ?_)
              refine x_goto C 145 dX13_many_92 rfl ?_
              refine x_pick [0, 1] rfl ?_
              exact hJ9 s24
          · refine x_aload_n C 0 dX13_many_52 rfl rfl ?_
            refine x_callV C (ct_X13_ovenStatement _ _ n s6) mt_X13_ovenStatement vr_X13_ovenStatement wd1819 cls_X13 at_X13 rfl ⟨rfl, rfl, Nat.le_of_ble_eq_true rfl, Nat.le_of_ble_eq_true rfl⟩ rfl (by decide) dX13_many_53 (kV (fun s25 => ?_))
            refine x_goto C 145 dX13_many_56 rfl ?_
            refine x_pick [0, 1] rfl ?_
            exact hJ9 s25
        · refine x_aload_n C 0 dX13_many_40 rfl rfl ?_
          refine x_callV C (ct_X13_doughStatement _ _ n s6) mt_X13_doughStatement vr_X13_doughStatement wd1772 cls_X13 at_X13 rfl ⟨rfl, rfl, Nat.le_of_ble_eq_true rfl, Nat.le_of_ble_eq_true rfl⟩ rfl (by decide) dX13_many_41 (kV (fun s26 => ?_))
          refine x_goto C 145 dX13_many_44 rfl ?_
          refine x_pick [0, 1] rfl ?_
          exact hJ9 s26
    · exact x_vretQ C (hQ _) rfl dX13_many_30
  · intro J2 hJ3
    refine x_icmp_ne C 23 rfl rfl dX13_many_11 rfl (fun c27 => x_on c27 ?_) (fun c27 => x_op c27 ?_)
    · refine x_pick [0, 1] rfl ?_
      exact hJ3 σ
    · refine x_aload_n C 0 dX13_many_14 rfl rfl ?_
      refine x_iconst C (5) dX13_many_15 rfl ?_
      refine x_aload_n C 0 dX13_many_16 rfl rfl ?_
      refine x_get (v := iV (σ 184 11)) C 11 cls_X13 at_X13 (by decide) wd1513 rfl rfl dX13_many_17 ?_
      refine x_callV C (ct_X13_faulty _ _ 5 (σ 184 11) σ) mt_X13_faulty vr_X13_faulty wd1750 cls_X13 at_X13 rfl ⟨rfl, rfl, Nat.le_of_ble_eq_true rfl, Nat.le_of_ble_eq_true rfl⟩ rfl (by decide) dX13_many_20 (kV (fun s28 => ?_))
      refine x_pick [0, 1] rfl ?_
      exact hJ3 s28
theorem ct_X13_many (l : Launch) (E : xE) (n : Nat) (p1 : Int) (σ : xS)   : xMet l E yX13_many cX13_many 2 none { frames := 11, cells := 0, slots := 0, locals := 239 } [.ref (xqa E.2.2 184), iV p1] WW WW σ (xrV (m_X13_many n p1 σ)) := by
  refine xMet.of0 (by decide) (Nat.le_of_ble_eq_true rfl) rfl rfl (fun X hE C => ?_)
  subst hE
  exact xMap (fun q => (none, q)) (wk_X13_many C (fun _ => rfl) )
theorem mt_X13_many : xMth yX13_many cX13_many 2 none 1 := ⟨wd1767, wd164, ⟨by decide, by decide, rfl⟩⟩
theorem vr_X13_many : xVir yX13_many := ⟨wd1766, wd66⟩
def m_X13_statement (n : Nat) (σ : xS) : Option xS :=
  (m_X13_singleHere n σ).bind fun v1 => (m_X13_manyHere n σ).bind fun v2 => xj (fun (q6 : xS) => (m_X13_semicolon n q6).bind fun s7 => some s7) fun J4 => if (zI v1) = (-1) then if (zI v2) = (-1) then (m_X13_faulty 1 (σ 184 11) σ).bind fun s10 => J4 s10 else (m_X13_many n v2 σ).bind fun s11 => J4 s11 else (m_X13_single n v1 σ).bind fun s12 => J4 s12
set_option maxHeartbeats 4000000 in
set_option maxRecDepth 100000 in
theorem wk_X13_statement {X : xX} {Qf : xS → State → Prop} {n : Nat} {σ : xS} (C : xCx X cX13_statement "BakeryNightModel" none { frames := 12, cells := 0, slots := 0, locals := 260 } 3) (hQ : ∀ τ, Qf τ = xQf X WW (none, τ))  : WO X Qf WW σ 0 [(0, .ref (xqa (xXE X).2.2 184))] [] (m_X13_statement n σ) := by
  unfold m_X13_statement
  refine x_aload_n C 0 dX13_statement_0 rfl rfl ?_
  refine x_callV C (ct_X13_singleHere _ _ n σ) mt_X13_singleHere vr_X13_singleHere wd1708 cls_X13 at_X13 rfl ⟨rfl, rfl, Nat.le_of_ble_eq_true rfl, Nat.le_of_ble_eq_true rfl⟩ rfl (by decide) dX13_statement_1 (kI (fun v1 => ?_))
  refine x_istore_n (L' := [(1, _), (0, _)]) C dX13_statement_4 rfl (by decide) rfl ?_
  refine x_aload_n C 1 dX13_statement_5 rfl rfl ?_
  refine x_callV C (ct_X13_manyHere _ _ n σ) mt_X13_manyHere vr_X13_manyHere wd1732 cls_X13 at_X13 rfl ⟨rfl, rfl, Nat.le_of_ble_eq_true rfl, Nat.le_of_ble_eq_true rfl⟩ rfl (by decide) dX13_statement_6 (kI (fun v2 => ?_))
  refine x_istore_n (L' := [(2, _), (1, _), (0, _)]) C dX13_statement_9 rfl (by decide) rfl ?_
  refine x_iload_n C 1 dX13_statement_10 rfl rfl ?_
  refine x_iconst C (-1) dX13_statement_11 rfl ?_
  refine x_join (fun J => ∀ q6 : xS, WO X Qf WW q6 45 [(0, .ref (xqa (xXE X).2.2 184))] [] (J q6)) ?_ ?_
  · intro q6
    refine x_aload_n C 0 dX13_statement_45 rfl rfl ?_
    refine x_callV C (ct_X13_semicolon _ _ n q6) mt_X13_semicolon vr_X13_semicolon wd1843 cls_X13 at_X13 rfl ⟨rfl, rfl, Nat.le_of_ble_eq_true rfl, Nat.le_of_ble_eq_true rfl⟩ rfl (by decide) dX13_statement_46 (kV (fun s7 => ?_))
    exact x_vretQ C (hQ _) rfl dX13_statement_49
  · intro J4 hJ5
    refine x_icmp_eq C 23 rfl (zIl _ rfl) dX13_statement_12 rfl (fun c8 => x_op c8 ?_) (fun c8 => x_on c8 ?_)
    · refine x_iload_n C 0 dX13_statement_23 rfl rfl ?_
      refine x_iconst C (-1) dX13_statement_24 rfl ?_
      refine x_icmp_eq C 36 rfl (zIl _ rfl) dX13_statement_25 rfl (fun c9 => x_op c9 ?_) (fun c9 => x_on c9 ?_)
      · refine x_aload_n C 2 dX13_statement_36 rfl rfl ?_
        refine x_iconst C (1) dX13_statement_37 rfl ?_
        refine x_aload_n C 2 dX13_statement_38 rfl rfl ?_
        refine x_get (v := iV (σ 184 11)) C 11 cls_X13 at_X13 (by decide) wd1513 rfl rfl dX13_statement_39 ?_
        refine x_callV C (ct_X13_faulty _ _ 1 (σ 184 11) σ) mt_X13_faulty vr_X13_faulty wd1750 cls_X13 at_X13 rfl ⟨rfl, rfl, Nat.le_of_ble_eq_true rfl, Nat.le_of_ble_eq_true rfl⟩ rfl (by decide) dX13_statement_42 (kV (fun s10 => ?_))
        refine x_pick [2] rfl ?_
        exact hJ5 s10
      · refine x_aload_n C 2 dX13_statement_28 rfl rfl ?_
        refine x_iload_n C 0 dX13_statement_29 rfl rfl ?_
        refine x_callV C (ct_X13_many _ _ n v2 σ) mt_X13_many vr_X13_many wd1764 cls_X13 at_X13 rfl ⟨rfl, rfl, Nat.le_of_ble_eq_true rfl, Nat.le_of_ble_eq_true rfl⟩ rfl (by decide) dX13_statement_30 (kV (fun s11 => ?_))
        refine x_goto C 45 dX13_statement_33 rfl ?_
        refine x_pick [2] rfl ?_
        exact hJ5 s11
    · refine x_aload_n C 2 dX13_statement_15 rfl rfl ?_
      refine x_iload_n C 1 dX13_statement_16 rfl rfl ?_
      refine x_callV C (ct_X13_single _ _ n v1 σ) mt_X13_single vr_X13_single wd1742 cls_X13 at_X13 rfl ⟨rfl, rfl, Nat.le_of_ble_eq_true rfl, Nat.le_of_ble_eq_true rfl⟩ rfl (by decide) dX13_statement_17 (kV (fun s12 => ?_))
      refine x_goto C 45 dX13_statement_20 rfl ?_
      refine x_pick [2] rfl ?_
      exact hJ5 s12
theorem ct_X13_statement (l : Launch) (E : xE) (n : Nat) (σ : xS)   : xMet l E yX13_statement cX13_statement 3 none { frames := 12, cells := 0, slots := 0, locals := 260 } [.ref (xqa E.2.2 184)] WW WW σ (xrV (m_X13_statement n σ)) := by
  refine xMet.of0 (by decide) (Nat.le_of_ble_eq_true rfl) rfl rfl (fun X hE C => ?_)
  subst hE
  exact xMap (fun q => (none, q)) (wk_X13_statement C (fun _ => rfl) )
theorem mt_X13_statement : xMth yX13_statement cX13_statement 3 none 0 := ⟨wd1707, wd164, ⟨by decide, by decide, rfl⟩⟩
theorem vr_X13_statement : xVir yX13_statement := ⟨wd1706, wd55⟩
