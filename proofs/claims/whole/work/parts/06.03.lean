def m_X8_drive (n : Nat) (k0 : Nat) (k1 : Nat) (p2 : Int) (σ : xS) : Option xS :=
  (m_X8_departureFor n k0 p2 σ).bind fun v1 => xck (zI p2) 128 <| xlet (xput σ (k0 + 4) (zI p2).toNat 0) fun s2 => xck (zI p2) 128 <| xlet (xput s2 (k0 + 5) (zI p2).toNat 0) fun s3 => xck (zI p2) 128 <| xlet (xput s3 (k0 + 7) (zI p2).toNat 1439) fun s4 => loopF (fun rec6 (t5 : Int × Int × Int × Int × xS) => xj (fun (q11 : Unit) => xck (zI p2) 128 <| xlet (xput t5.2.2.2.2 (k0 + 6) (zI p2).toNat (t5.1 - v1)) fun s12 => some s12) fun J9 => if 7 ≤ (zI t5.2.2.2.1) then J9 () else if (zI t5.2.2.1) = 0 then J9 () else (m_X9_nextStop n k1 t5.2.1 t5.2.2.1 t5.2.2.2.2).bind fun v15 => if (zI v15) < 7 then (m_X9_between k1 t5.2.1 v15 t5.2.2.2.2).bind fun v17 => xlet (t5.1 + v17) fun v18 => xck (zI v15) 7 <| xlet (xput t5.2.2.2.2 (k0 + 11) (zI v15).toNat v18) fun s19 => xck (zI p2) 128 <| xck (zI v15) 7 <| xck (zI p2) 128 <| xlet (xput s19 (k0 + 4) (zI p2).toNat ((s19 (k0 + 4) (zI p2).toNat) + (s19 (k0 + 2) (zI v15).toNat))) fun s20 => xck (zI p2) 128 <| xck (zI v15) 7 <| xlet (if (zI v18) ≤ (zI (s20 (k0 + 1) (zI v15).toNat)) then 0 else 1) fun v21 => xck (zI p2) 128 <| xlet (xput s20 (k0 + 5) (zI p2).toNat ((s20 (k0 + 5) (zI p2).toNat) + v21)) fun s22 => xck (zI p2) 128 <| xck (zI v15) 7 <| xck (zI p2) 128 <| xlet (xput s22 (k0 + 7) (zI p2).toNat (zmin (s22 (k0 + 7) (zI p2).toNat) ((s22 (k0 + 1) (zI v15).toNat) - v18))) fun s23 => xlet (zand t5.2.2.1 (zxor (zshl 1 v15) (-1))) fun v24 => xlet (t5.2.2.2.1 + 1) fun v25 => rec6 (v18, v15, v24, v25, s23) else some t5.2.2.2.2) n (v1, 7, p2, 0, s4)
set_option maxHeartbeats 4000000 in
set_option maxRecDepth 100000 in
theorem wk_X8_drive {X : xX} {Qf : xS → State → Prop} {n : Nat} {k0 : Nat} {k1 : Nat} {p2 : Int} {σ : xS} (C : xCx X cX8_drive "BakeryNight$Plan" none { frames := 2, cells := 0, slots := 0, locals := 46 } 9) (hQ : ∀ τ, Qf τ = xQf X WW (none, τ)) (hk0 : isPl k0) (hk1 : isRd k1) : WO X Qf WW σ 0 [(0, .ref (xqa (xXE X).2.2 k0)), (1, .ref (xqa (xXE X).2.2 k1)), (2, iV p2)] [] (m_X8_drive n k0 k1 p2 σ) := by
  unfold m_X8_drive
  refine x_aload_n C 0 dX8_drive_0 rfl rfl ?_
  refine x_iload_n C 2 dX8_drive_1 rfl rfl ?_
  refine x_callV C (ct_X8_departureFor _ _ n k0 p2 σ hk0) mt_X8_departureFor vr_X8_departureFor wd1246 cls_X8 (at_X8 hk0) rfl ⟨rfl, rfl, Nat.le_of_ble_eq_true rfl, Nat.le_of_ble_eq_true rfl⟩ rfl (by decide) dX8_drive_2 (kI (fun v1 => ?_))
  refine x_istore_n (L' := [(3, _), (0, _), (1, _), (2, _)]) C dX8_drive_5 rfl (by decide) rfl ?_
  refine x_iload_n C 0 dX8_drive_6 rfl rfl ?_
  refine x_istore (L' := [(4, _), (3, _), (0, _), (1, _), (2, _)]) C dX8_drive_7 (by decide) rfl ?_
  refine x_bipush C (7) dX8_drive_9 rfl ?_
  refine x_istore (L' := [(5, _), (4, _), (3, _), (0, _), (1, _), (2, _)]) C dX8_drive_11 (by decide) rfl ?_
  refine x_iload_n C 5 dX8_drive_13 rfl rfl ?_
  refine x_istore (L' := [(6, _), (5, _), (4, _), (3, _), (0, _), (1, _), (2, _)]) C dX8_drive_14 (by decide) rfl ?_
  refine x_aload_n C 4 dX8_drive_16 rfl rfl ?_
  refine x_get (v := .ref (xqa (xXE X).2.2 (k0 + 4))) C 5 cls_X8 (at_X8 hk0) (by decide) wd631 rfl (xV_r (rt_X8_setLoad hk0 _) rfl) dX8_drive_17 ?_
  refine x_iload_n C 6 dX8_drive_20 rfl rfl ?_
  refine x_iconst C (0) dX8_drive_21 rfl ?_
  refine x_iast C (at_X8_setLoad hk0) rfl dX8_drive_22 (fun _ => ?_)
  refine x_letS (fun s2 => ?_)
  refine x_aload_n C 4 dX8_drive_23 rfl rfl ?_
  refine x_get (v := .ref (xqa (xXE X).2.2 (k0 + 5))) C 6 cls_X8 (at_X8 hk0) (by decide) wd632 rfl (xV_r (rt_X8_setLate hk0 _) rfl) dX8_drive_24 ?_
  refine x_iload_n C 6 dX8_drive_27 rfl rfl ?_
  refine x_iconst C (0) dX8_drive_28 rfl ?_
  refine x_iast C (at_X8_setLate hk0) rfl dX8_drive_29 (fun _ => ?_)
  refine x_letS (fun s3 => ?_)
  refine x_aload_n C 4 dX8_drive_30 rfl rfl ?_
  refine x_get (v := .ref (xqa (xXE X).2.2 (k0 + 7))) C 8 cls_X8 (at_X8 hk0) (by decide) wd634 rfl (xV_r (rt_X8_setSlack hk0 _) rfl) dX8_drive_31 ?_
  refine x_iload_n C 6 dX8_drive_34 rfl rfl ?_
  refine x_sipush C (1439) dX8_drive_35 rfl ?_
  refine x_iast C (at_X8_setSlack hk0) rfl dX8_drive_38 (fun _ => ?_)
  refine x_letS (fun s4 => ?_)
  refine x_iconst C (0) dX8_drive_39 rfl ?_
  refine x_istore (L' := [(7, _), (6, _), (5, _), (4, _), (3, _), (0, _), (1, _), (2, _)]) C dX8_drive_40 (by decide) rfl ?_
  refine x_pick [5, 6, 7, 4, 3, 2, 1, 0] rfl ?_
  refine x_loop (fun t5 : Int × Int × Int × Int × xS => t5.2.2.2.2) (fun t5 : Int × Int × Int × Int × xS => [(0, .ref (xqa (xXE X).2.2 k0)), (1, .ref (xqa (xXE X).2.2 k1)), (2, iV p2), (3, iV v1), (4, iV t5.1), (5, iV t5.2.1), (6, iV t5.2.2.1), (7, iV t5.2.2.2.1)]) (fun rec6 hr7 t5 => ?_) n (v1, 7, p2, 0, s4)
  refine x_iload C 7 dX8_drive_42 rfl ?_
  refine x_bipush C (7) dX8_drive_44 rfl ?_
  refine x_join (fun J => ∀ q11 : Unit, WO X Qf WW t5.2.2.2.2 182 [(0, .ref (xqa (xXE X).2.2 k0)), (2, iV p2), (3, iV v1), (4, iV t5.1)] [] (J q11)) ?_ ?_
  · intro q11
    refine x_aload_n C 0 dX8_drive_182 rfl rfl ?_
    refine x_get (v := .ref (xqa (xXE X).2.2 (k0 + 6))) C 7 cls_X8 (at_X8 hk0) (by decide) wd633 rfl (xV_r (rt_X8_setMinutes hk0 _) rfl) dX8_drive_183 ?_
    refine x_iload_n C 1 dX8_drive_186 rfl rfl ?_
    refine x_iload C 3 dX8_drive_187 rfl ?_
    refine x_iload_n C 2 dX8_drive_189 rfl rfl ?_
    refine x_isub C dX8_drive_190 ?_
    refine x_iast C (at_X8_setMinutes hk0) rfl dX8_drive_191 (fun _ => ?_)
    refine x_letS (fun s12 => ?_)
    exact x_vretQ C (hQ _) rfl dX8_drive_192
  · intro J9 hJ10
    refine x_icmp_ge C 182 rfl (zIl _ rfl) dX8_drive_46 rfl (fun c13 => x_op c13 ?_) (fun c13 => x_on c13 ?_)
    · refine x_pick [0, 2, 3, 4] rfl ?_
      exact hJ10 ()
    · refine x_iload C 6 dX8_drive_49 rfl ?_
      refine x_if_eq C 182 rfl dX8_drive_51 rfl (fun c14 => x_op c14 ?_) (fun c14 => x_on c14 ?_)
      · refine x_pick [0, 2, 3, 4] rfl ?_
        exact hJ10 ()
      · refine x_aload_n C 1 dX8_drive_54 rfl rfl ?_
        refine x_iload C 5 dX8_drive_55 rfl ?_
        refine x_iload C 6 dX8_drive_57 rfl ?_
        refine x_callV C (ct_X9_nextStop _ _ n k1 t5.2.1 t5.2.2.1 t5.2.2.2.2 hk1) mt_X9_nextStop vr_X9_nextStop wd1250 cls_X9 (at_X9 hk1) rfl ⟨rfl, rfl, Nat.le_of_ble_eq_true rfl, Nat.le_of_ble_eq_true rfl⟩ rfl (by decide) dX8_drive_59 (kI (fun v15 => ?_))
        refine x_istore (L' := [(8, _), (0, _), (1, _), (2, _), (3, _), (4, _), (5, _), (6, _), (7, _)]) C dX8_drive_62 (by decide) rfl ?_
        refine x_iload C 0 dX8_drive_64 rfl ?_
        refine x_bipush C (7) dX8_drive_66 rfl ?_
        refine x_icmp_lt C 72 rfl (zIl _ rfl) dX8_drive_68 rfl (fun c16 => x_op c16 ?_) (fun c16 => x_on c16 ?_)
        · refine x_iload C 5 dX8_drive_72 rfl ?_
          refine x_aload_n C 2 dX8_drive_74 rfl rfl ?_
          refine x_iload C 6 dX8_drive_75 rfl ?_
          refine x_iload C 0 dX8_drive_77 rfl ?_
          refine x_callV C (ct_X9_between _ _ k1 t5.2.1 v15 t5.2.2.2.2 hk1) mt_X9_between vr_X9_between wd1251 cls_X9 (at_X9 hk1) rfl ⟨rfl, rfl, Nat.le_of_ble_eq_true rfl, Nat.le_of_ble_eq_true rfl⟩ rfl (Nat.le_of_ble_eq_true rfl) dX8_drive_79 (kI (fun v17 => ?_))
          refine x_iadd C dX8_drive_82 ?_
          refine x_letI (fun v18 => ?_)
          refine x_istore (L' := [(4, _), (8, _), (0, _), (1, _), (2, _), (3, _), (5, _), (6, _), (7, _)]) C dX8_drive_83 (by decide) rfl ?_
          refine x_aload_n C 2 dX8_drive_85 rfl rfl ?_
          refine x_get (v := .ref (xqa (xXE X).2.2 (k0 + 11))) C 14 cls_X8 (at_X8 hk0) (by decide) wd642 rfl (xV_r (rt_X8_arrival hk0 _) rfl) dX8_drive_86 ?_
          refine x_iload C 1 dX8_drive_89 rfl ?_
          refine x_iload C 0 dX8_drive_91 rfl ?_
          refine x_iast C (at_X8_arrival hk0) rfl dX8_drive_93 (fun _ => ?_)
          refine x_letS (fun s19 => ?_)
          refine x_aload_n C 2 dX8_drive_94 rfl rfl ?_
          refine x_get (v := .ref (xqa (xXE X).2.2 (k0 + 4))) C 5 cls_X8 (at_X8 hk0) (by decide) wd631 rfl (xV_r (rt_X8_setLoad hk0 _) rfl) dX8_drive_95 ?_
          refine x_iload_n C 4 dX8_drive_98 rfl rfl ?_
          refine x_dup2 C dX8_drive_99 rfl rfl ?_
          refine x_iald C (at_X8_setLoad hk0) rfl dX8_drive_100 (fun _ => ?_)
          refine x_aload_n C 2 dX8_drive_101 rfl rfl ?_
          refine x_get (v := .ref (xqa (xXE X).2.2 (k0 + 2))) C 1 cls_X8 (at_X8 hk0) (by decide) wd627 rfl (xV_r (rt_X8_load hk0 _) rfl) dX8_drive_102 ?_
          refine x_iload C 1 dX8_drive_105 rfl ?_
          refine x_iald C (at_X8_load hk0) rfl dX8_drive_107 (fun _ => ?_)
          refine x_iadd C dX8_drive_108 ?_
          refine x_iast C (at_X8_setLoad hk0) rfl dX8_drive_109 (fun _ => ?_)
          refine x_letS (fun s20 => ?_)
          refine x_aload_n C 2 dX8_drive_110 rfl rfl ?_
          refine x_get (v := .ref (xqa (xXE X).2.2 (k0 + 5))) C 6 cls_X8 (at_X8 hk0) (by decide) wd632 rfl (xV_r (rt_X8_setLate hk0 _) rfl) dX8_drive_111 ?_
          refine x_iload_n C 4 dX8_drive_114 rfl rfl ?_
          refine x_dup2 C dX8_drive_115 rfl rfl ?_
          refine x_iald C (at_X8_setLate hk0) rfl dX8_drive_116 (fun _ => ?_)
          refine x_iload C 0 dX8_drive_117 rfl ?_
          refine x_aload_n C 2 dX8_drive_119 rfl rfl ?_
          refine x_get (v := .ref (xqa (xXE X).2.2 (k0 + 1))) C 0 cls_X8 (at_X8 hk0) (by decide) wd626 rfl (xV_r (rt_X8_due hk0 _) rfl) dX8_drive_120 ?_
          refine x_iload C 1 dX8_drive_123 rfl ?_
          refine x_iald C (at_X8_due hk0) rfl dX8_drive_125 (fun _ => ?_)
          refine x_tree 134 [iV (s20 (k0 + 5) (zI p2).toNat), iV p2, .ref (xqa (xXE X).2.2 (k0 + 5))] (fun v21 => ?_) (fun hJ26 => ?_)
          · refine x_iadd C dX8_drive_134 ?_
            refine x_iast C (at_X8_setLate hk0) rfl dX8_drive_135 (fun _ => ?_)
            refine x_letS (fun s22 => ?_)
            refine x_aload_n C 2 dX8_drive_136 rfl rfl ?_
            refine x_get (v := .ref (xqa (xXE X).2.2 (k0 + 7))) C 8 cls_X8 (at_X8 hk0) (by decide) wd634 rfl (xV_r (rt_X8_setSlack hk0 _) rfl) dX8_drive_137 ?_
            refine x_iload_n C 4 dX8_drive_140 rfl rfl ?_
            refine x_aload_n C 2 dX8_drive_141 rfl rfl ?_
            refine x_get (v := .ref (xqa (xXE X).2.2 (k0 + 7))) C 8 cls_X8 (at_X8 hk0) (by decide) wd634 rfl (xV_r (rt_X8_setSlack hk0 _) rfl) dX8_drive_142 ?_
            refine x_iload_n C 4 dX8_drive_145 rfl rfl ?_
            refine x_iald C (at_X8_setSlack hk0) rfl dX8_drive_146 (fun _ => ?_)
            refine x_aload_n C 2 dX8_drive_147 rfl rfl ?_
            refine x_get (v := .ref (xqa (xXE X).2.2 (k0 + 1))) C 0 cls_X8 (at_X8 hk0) (by decide) wd626 rfl (xV_r (rt_X8_due hk0 _) rfl) dX8_drive_148 ?_
            refine x_iload C 1 dX8_drive_151 rfl ?_
            refine x_iald C (at_X8_due hk0) rfl dX8_drive_153 (fun _ => ?_)
            refine x_iload C 0 dX8_drive_154 rfl ?_
            refine x_isub C dX8_drive_156 ?_
            refine x_mmin C wd1232 wd425 wd160 wd426 (Nat.le_of_ble_eq_true rfl) (Nat.le_of_ble_eq_true rfl) dX8_drive_157 ?_
            refine x_iast C (at_X8_setSlack hk0) rfl dX8_drive_160 (fun _ => ?_)
            refine x_letS (fun s23 => ?_)
            refine x_iload C 7 dX8_drive_161 rfl ?_
            refine x_iconst C (1) dX8_drive_163 rfl ?_
            refine x_iload C 1 dX8_drive_164 rfl ?_
            refine x_ishl C dX8_drive_166 ?_
            refine x_iconst C (-1) dX8_drive_167 rfl ?_
            refine x_ixor C dX8_drive_168 ?_
            refine x_iand C dX8_drive_169 ?_
            refine x_letI (fun v24 => ?_)
            refine x_istore (L' := [(6, _), (4, _), (8, _), (0, _), (1, _), (2, _), (3, _), (5, _), (7, _)]) C dX8_drive_170 (by decide) rfl ?_
            refine x_iload C 2 dX8_drive_172 rfl ?_
            refine x_istore (L' := [(5, _), (6, _), (4, _), (8, _), (0, _), (1, _), (2, _), (3, _), (7, _)]) C dX8_drive_174 (by decide) rfl ?_
            refine x_inc C 8 (f := _) dX8_drive_176 rfl (by decide) (1) rfl (fun v25 => ?_)
            refine x_reL (L' := [(7, _), (5, _), (6, _), (4, _), (8, _), (0, _), (1, _), (2, _), (3, _)]) rfl ?_
            refine x_goto C 42 dX8_drive_179 rfl ?_
            refine x_pick [5, 6, 7, 8, 3, 1, 2, 0] rfl ?_
            exact hr7 (v18, v15, v24, v25, s23)
          · refine x_icmp_le C 133 rfl rfl dX8_drive_126 rfl (fun c27 => ?_) (fun c27 => ?_)
            · refine x_iconst C (0) dX8_drive_133 rfl ?_
              exact hJ26 _ (by rw [if_pos c27])
            · refine x_iconst C (1) dX8_drive_129 rfl ?_
              refine x_goto C 134 dX8_drive_130 rfl ?_
              exact hJ26 _ (by rw [if_neg c27])
        · exact x_vretQ C (hQ _) rfl dX8_drive_71
theorem ct_X8_drive (l : Launch) (E : xE) (n : Nat) (k0 : Nat) (k1 : Nat) (p2 : Int) (σ : xS) (hk0 : isPl k0) (hk1 : isRd k1)  : xMet l E yX8_drive cX8_drive 9 none { frames := 2, cells := 0, slots := 0, locals := 46 } [.ref (xqa E.2.2 k0), .ref (xqa E.2.2 k1), iV p2] WW WW σ (xrV (m_X8_drive n k0 k1 p2 σ)) := by
  refine xMet.of0 (by decide) (Nat.le_of_ble_eq_true rfl) rfl rfl (fun X hE C => ?_)
  subst hE
  exact xMap (fun q => (none, q)) (wk_X8_drive C (fun _ => rfl) hk0 hk1)
theorem mt_X8_drive : xMth yX8_drive cX8_drive 9 none 2 := ⟨wd1245, wd163, ⟨by decide, by decide, rfl⟩⟩
theorem vr_X8_drive : xVir yX8_drive := ⟨wd1244, wd40⟩
def m_X8_measureSets (n : Nat) (k0 : Nat) (k1 : Nat) (σ : xS) : Option xS :=
  loopF (fun rec2 (t1 : Int × xS) => if (zI (t1.2 k0 3)) < (zI t1.1) then some t1.2 else xj (fun (q8 : xS) => xlet (t1.1 + 1) fun v9 => rec2 (v9, q8)) fun J6 => if (zI (zand t1.1 (zxor (t1.2 k0 3) (-1)))) = 0 then (m_X8_drive n k0 (k1 + 39) t1.1 t1.2).bind fun s11 => J6 s11 else J6 t1.2) n (0, σ)
set_option maxHeartbeats 4000000 in
set_option maxRecDepth 100000 in
theorem wk_X8_measureSets {X : xX} {Qf : xS → State → Prop} {n : Nat} {k0 : Nat} {k1 : Nat} {σ : xS} (C : xCx X cX8_measureSets "BakeryNight$Plan" none { frames := 3, cells := 0, slots := 0, locals := 74 } 3) (hQ : ∀ τ, Qf τ = xQf X WW (none, τ)) (hk0 : isPl k0) (hk1 : isBk k1) : WO X Qf WW σ 0 [(0, .ref (xqa (xXE X).2.2 k0)), (1, .ref (xqa (xXE X).2.2 k1))] [] (m_X8_measureSets n k0 k1 σ) := by
  unfold m_X8_measureSets
  refine x_iconst C (0) dX8_measureSets_0 rfl ?_
  refine x_istore_n (L' := [(2, _), (0, _), (1, _)]) C dX8_measureSets_1 rfl (by decide) rfl ?_
  refine x_pick [1, 2, 0] rfl ?_
  refine x_loop (fun t1 : Int × xS => t1.2) (fun t1 : Int × xS => [(0, .ref (xqa (xXE X).2.2 k0)), (1, .ref (xqa (xXE X).2.2 k1)), (2, iV t1.1)]) (fun rec2 hr3 t1 => ?_) n (0, σ)
  refine x_iload_n C 2 dX8_measureSets_2 rfl rfl ?_
  refine x_aload_n C 0 dX8_measureSets_3 rfl rfl ?_
  refine x_get (v := iV (t1.2 k0 3)) C 3 cls_X8 (at_X8 hk0) (by decide) wd629 rfl rfl dX8_measureSets_4 ?_
  refine x_icmp_gt C 36 rfl rfl dX8_measureSets_7 rfl (fun c4 => x_op c4 ?_) (fun c4 => x_on c4 ?_)
  · exact x_vretQ C (hQ _) rfl dX8_measureSets_36
  · refine x_iload_n C 2 dX8_measureSets_10 rfl rfl ?_
    refine x_aload_n C 0 dX8_measureSets_11 rfl rfl ?_
    refine x_get (v := iV (t1.2 k0 3)) C 3 cls_X8 (at_X8 hk0) (by decide) wd629 rfl rfl dX8_measureSets_12 ?_
    refine x_iconst C (-1) dX8_measureSets_15 rfl ?_
    refine x_ixor C dX8_measureSets_16 ?_
    refine x_iand C dX8_measureSets_17 ?_
    refine x_join (fun J => ∀ q8 : xS, WO X Qf WW q8 30 [(0, .ref (xqa (xXE X).2.2 k0)), (1, .ref (xqa (xXE X).2.2 k1)), (2, iV t1.1)] [] (J q8)) ?_ ?_
    · intro q8
      refine x_inc C 2 (f := _) dX8_measureSets_30 rfl (by decide) (1) rfl (fun v9 => ?_)
      refine x_reL (L' := [(2, _), (0, _), (1, _)]) rfl ?_
      refine x_goto C 2 dX8_measureSets_33 rfl ?_
      refine x_pick [1, 2, 0] rfl ?_
      exact hr3 (v9, q8)
    · intro J6 hJ7
      refine x_if_ne C 30 rfl dX8_measureSets_18 rfl (fun c10 => x_on c10 ?_) (fun c10 => x_op c10 ?_)
      · refine x_pick [0, 1, 2] rfl ?_
        exact hJ7 t1.2
      · refine x_aload_n C 0 dX8_measureSets_21 rfl rfl ?_
        refine x_aload_n C 1 dX8_measureSets_22 rfl rfl ?_
        refine x_get (v := .ref (xqa (xXE X).2.2 (k1 + 39))) C 9 cls_X1 (at_X1 hk1) (by decide) wd475 rfl (xV_r (rt_X1_roads hk1 _) rfl) dX8_measureSets_23 ?_
        refine x_iload_n C 2 dX8_measureSets_26 rfl rfl ?_
        refine x_callV C (ct_X8_drive _ _ n k0 (k1 + 39) t1.1 t1.2 hk0 (rd_bk hk1)) mt_X8_drive vr_X8_drive wd1242 cls_X8 (at_X8 hk0) rfl ⟨rfl, rfl, Nat.le_of_ble_eq_true rfl, Nat.le_of_ble_eq_true rfl⟩ rfl (by decide) dX8_measureSets_27 (kV (fun s11 => ?_))
        refine x_pick [0, 1, 2] rfl ?_
        exact hJ7 s11
theorem ct_X8_measureSets (l : Launch) (E : xE) (n : Nat) (k0 : Nat) (k1 : Nat) (σ : xS) (hk0 : isPl k0) (hk1 : isBk k1)  : xMet l E yX8_measureSets cX8_measureSets 3 none { frames := 3, cells := 0, slots := 0, locals := 74 } [.ref (xqa E.2.2 k0), .ref (xqa E.2.2 k1)] WW WW σ (xrV (m_X8_measureSets n k0 k1 σ)) := by
  refine xMet.of0 (by decide) (Nat.le_of_ble_eq_true rfl) rfl rfl (fun X hE C => ?_)
  subst hE
  exact xMap (fun q => (none, q)) (wk_X8_measureSets C (fun _ => rfl) hk0 hk1)
theorem mt_X8_measureSets : xMth yX8_measureSets cX8_measureSets 3 none 1 := ⟨wd1241, wd163, ⟨by decide, by decide, rfl⟩⟩
theorem vr_X8_measureSets : xVir yX8_measureSets := ⟨wd1240, wd39⟩
def m_J6_bitCount_0f7a4 (p1 : Int) : Option Int :=
  xlet (p1 - (zand (zushr p1 1) 1431655765)) fun v1 => xlet ((zand v1 858993459) + (zand (zushr v1 2) 858993459)) fun v2 => xlet (zand (v2 + (zushr v2 4)) 252645135) fun v3 => xlet (v3 + (zushr v3 8)) fun v4 => xlet (v4 + (zushr v4 16)) fun v5 => some (zand v5 63)
set_option maxHeartbeats 4000000 in
set_option maxRecDepth 100000 in
theorem wk_J6_bitCount_0f7a4 {X : xX} {Qf : Int → State → Prop} {p1 : Int} {σ : xS} (C : xCx X cJ6_bitCount_0f7a4 "java/lang/Integer" (some .int) { frames := 0, cells := 0, slots := 0, locals := 0 } 1) (hQ : ∀ v, Qf v = xQf X WW (some (iV v), σ))  : WO X Qf WW σ 0 [(0, iV p1)] [] (m_J6_bitCount_0f7a4 p1) := by
  unfold m_J6_bitCount_0f7a4
  refine x_iload_n C 0 dJ6_bitCount_0f7a4_0 rfl rfl ?_
  refine x_iload_n C 0 dJ6_bitCount_0f7a4_1 rfl rfl ?_
  refine x_iconst C (1) dJ6_bitCount_0f7a4_2 rfl ?_
  refine x_iushr C dJ6_bitCount_0f7a4_3 ?_
  refine x_ldcw C (1431655765) wd1029 rfl dJ6_bitCount_0f7a4_4 ?_
  refine x_iand C dJ6_bitCount_0f7a4_7 ?_
  refine x_isub C dJ6_bitCount_0f7a4_8 ?_
  refine x_letI (fun v1 => ?_)
  refine x_istore_n (L' := [(0, _)]) C dJ6_bitCount_0f7a4_9 rfl (by decide) rfl ?_
  refine x_iload_n C 0 dJ6_bitCount_0f7a4_10 rfl rfl ?_
  refine x_ldcw C (858993459) wd1030 rfl dJ6_bitCount_0f7a4_11 ?_
  refine x_iand C dJ6_bitCount_0f7a4_14 ?_
  refine x_iload_n C 0 dJ6_bitCount_0f7a4_15 rfl rfl ?_
  refine x_iconst C (2) dJ6_bitCount_0f7a4_16 rfl ?_
  refine x_iushr C dJ6_bitCount_0f7a4_17 ?_
  refine x_ldcw C (858993459) wd1030 rfl dJ6_bitCount_0f7a4_18 ?_
  refine x_iand C dJ6_bitCount_0f7a4_21 ?_
  refine x_iadd C dJ6_bitCount_0f7a4_22 ?_
  refine x_letI (fun v2 => ?_)
  refine x_istore_n (L' := [(0, _)]) C dJ6_bitCount_0f7a4_23 rfl (by decide) rfl ?_
  refine x_iload_n C 0 dJ6_bitCount_0f7a4_24 rfl rfl ?_
  refine x_iload_n C 0 dJ6_bitCount_0f7a4_25 rfl rfl ?_
  refine x_iconst C (4) dJ6_bitCount_0f7a4_26 rfl ?_
  refine x_iushr C dJ6_bitCount_0f7a4_27 ?_
  refine x_iadd C dJ6_bitCount_0f7a4_28 ?_
  refine x_ldcw C (252645135) wd1031 rfl dJ6_bitCount_0f7a4_29 ?_
  refine x_iand C dJ6_bitCount_0f7a4_32 ?_
  refine x_letI (fun v3 => ?_)
  refine x_istore_n (L' := [(0, _)]) C dJ6_bitCount_0f7a4_33 rfl (by decide) rfl ?_
  refine x_iload_n C 0 dJ6_bitCount_0f7a4_34 rfl rfl ?_
  refine x_iload_n C 0 dJ6_bitCount_0f7a4_35 rfl rfl ?_
  refine x_bipush C (8) dJ6_bitCount_0f7a4_36 rfl ?_
  refine x_iushr C dJ6_bitCount_0f7a4_38 ?_
  refine x_iadd C dJ6_bitCount_0f7a4_39 ?_
  refine x_letI (fun v4 => ?_)
  refine x_istore_n (L' := [(0, _)]) C dJ6_bitCount_0f7a4_40 rfl (by decide) rfl ?_
  refine x_iload_n C 0 dJ6_bitCount_0f7a4_41 rfl rfl ?_
  refine x_iload_n C 0 dJ6_bitCount_0f7a4_42 rfl rfl ?_
  refine x_bipush C (16) dJ6_bitCount_0f7a4_43 rfl ?_
  refine x_iushr C dJ6_bitCount_0f7a4_45 ?_
  refine x_iadd C dJ6_bitCount_0f7a4_46 ?_
  refine x_letI (fun v5 => ?_)
  refine x_istore_n (L' := [(0, _)]) C dJ6_bitCount_0f7a4_47 rfl (by decide) rfl ?_
  refine x_iload_n C 0 dJ6_bitCount_0f7a4_48 rfl rfl ?_
  refine x_bipush C (63) dJ6_bitCount_0f7a4_49 rfl ?_
  refine x_iand C dJ6_bitCount_0f7a4_51 ?_
  exact x_iretQ C (hQ _) rfl dJ6_bitCount_0f7a4_52
theorem ct_J6_bitCount_0f7a4 (l : Launch) (E : xE) (p1 : Int)  (σ : xS) : xMet l E yJ6_bitCount_0f7a4 cJ6_bitCount_0f7a4 1 (some .int) { frames := 0, cells := 0, slots := 0, locals := 0 } [iV p1] WW WW σ (xrI (m_J6_bitCount_0f7a4 p1) σ) := by
  refine xMet.of0 (by decide) (Nat.le_of_ble_eq_true rfl) rfl rfl (fun X hE C => ?_)
  subst hE
  exact xMap (fun v => (some (iV v), σ)) (wk_J6_bitCount_0f7a4 C (fun _ => rfl) )
theorem mt_J6_bitCount_0f7a4 : xMth yJ6_bitCount_0f7a4 cJ6_bitCount_0f7a4 1 (some .int) 1 := ⟨wd1028, wd172, ⟨by decide, by decide, rfl⟩⟩
theorem st_J6_bitCount_0f7a4 : Cond.static yJ6_bitCount_0f7a4 ∈ GW := wd1027
def m_X8_firstWay (n : Nat) (k0 : Nat) (k1 : Nat) (σ : xS) : Option (Int × xS) :=
  (m_J7_fill_53178 n (k0 + 8) 3 0 σ).bind fun s1 => (m_J7_fill_53178 n (k0 + 9) 7 0 s1).bind fun s2 => xck 0 3 <| xlet (xput s2 (k0 + 8) (0 : Int).toNat (s2 k0 3)) fun s3 => (m_X9_restOfRoute (k1 + 39) 7 (s3 k0 3) s3).bind fun v4 => if (zI v4) < 1000000 then loopF (fun rec7 (t6 : Int × Int) => (m_J6_bitCount_0f7a4 (s3 k0 3)).bind fun v9 => if (zI v9) ≤ (zI t6.2) then some (t6.1, s3) else xlet (t6.1 * (s3 k1 11)) fun v11 => xlet (t6.2 + 1) fun v12 => rec7 (v11, v12)) n (1, 0) else some (0, s3)
set_option maxHeartbeats 4000000 in
set_option maxRecDepth 100000 in
theorem wk_X8_firstWay {X : xX} {Qf : (Int × xS) → State → Prop} {n : Nat} {k0 : Nat} {k1 : Nat} {σ : xS} (C : xCx X cX8_firstWay "BakeryNight$Plan" (some .int) { frames := 1, cells := 0, slots := 0, locals := 23 } 4) (hQ : ∀ v τ, Qf (v, τ) = xQf X WW (some (iV v), τ)) (hk0 : isPl k0) (hk1 : isBk k1) : WO X Qf WW σ 0 [(0, .ref (xqa (xXE X).2.2 k0)), (1, .ref (xqa (xXE X).2.2 k1))] [] (m_X8_firstWay n k0 k1 σ) := by
  unfold m_X8_firstWay
  refine x_aload_n C 0 dX8_firstWay_0 rfl rfl ?_
  refine x_get (v := .ref (xqa (xXE X).2.2 (k0 + 8))) C 9 cls_X8 (at_X8 hk0) (by decide) wd635 rfl (xV_r (rt_X8_shopsOfVan hk0 _) rfl) dX8_firstWay_1 ?_
  refine x_iconst C (0) dX8_firstWay_4 rfl ?_
  refine x_callS C (ct_J7_fill_53178 _ _ n (k0 + 8) 3 0 σ (at_X8_shopsOfVan hk0)) mt_J7_fill_53178 st_J7_fill_53178 wd1230 rfl ⟨rfl, rfl, Nat.le_of_ble_eq_true rfl, Nat.le_of_ble_eq_true rfl⟩ rfl (by decide) dX8_firstWay_5 (kV (fun s1 => ?_))
  refine x_aload_n C 0 dX8_firstWay_8 rfl rfl ?_
  refine x_get (v := .ref (xqa (xXE X).2.2 (k0 + 9))) C 10 cls_X8 (at_X8 hk0) (by decide) wd636 rfl (xV_r (rt_X8_vanOfShop hk0 _) rfl) dX8_firstWay_9 ?_
  refine x_iconst C (0) dX8_firstWay_12 rfl ?_
  refine x_callS C (ct_J7_fill_53178 _ _ n (k0 + 9) 7 0 s1 (at_X8_vanOfShop hk0)) mt_J7_fill_53178 st_J7_fill_53178 wd1230 rfl ⟨rfl, rfl, Nat.le_of_ble_eq_true rfl, Nat.le_of_ble_eq_true rfl⟩ rfl (by decide) dX8_firstWay_13 (kV (fun s2 => ?_))
  refine x_aload_n C 0 dX8_firstWay_16 rfl rfl ?_
  refine x_get (v := .ref (xqa (xXE X).2.2 (k0 + 8))) C 9 cls_X8 (at_X8 hk0) (by decide) wd635 rfl (xV_r (rt_X8_shopsOfVan hk0 _) rfl) dX8_firstWay_17 ?_
  refine x_iconst C (0) dX8_firstWay_20 rfl ?_
  refine x_aload_n C 0 dX8_firstWay_21 rfl rfl ?_
  refine x_get (v := iV (s2 k0 3)) C 3 cls_X8 (at_X8 hk0) (by decide) wd629 rfl rfl dX8_firstWay_22 ?_
  refine x_iast C (at_X8_shopsOfVan hk0) (zIl _ rfl) dX8_firstWay_25 (fun _ => ?_)
  refine x_letS (fun s3 => ?_)
  refine x_aload_n C 1 dX8_firstWay_26 rfl rfl ?_
  refine x_get (v := .ref (xqa (xXE X).2.2 (k1 + 39))) C 9 cls_X1 (at_X1 hk1) (by decide) wd475 rfl (xV_r (rt_X1_roads hk1 _) rfl) dX8_firstWay_27 ?_
  refine x_bipush C (7) dX8_firstWay_30 rfl ?_
  refine x_aload_n C 0 dX8_firstWay_32 rfl rfl ?_
  refine x_get (v := iV (s3 k0 3)) C 3 cls_X8 (at_X8 hk0) (by decide) wd629 rfl rfl dX8_firstWay_33 ?_
  refine x_callV C (ct_X9_restOfRoute _ _ (k1 + 39) 7 (s3 k0 3) s3 (rd_bk hk1)) mt_X9_restOfRoute vr_X9_restOfRoute wd1256 cls_X9 (at_X9 (rd_bk hk1)) rfl ⟨rfl, rfl, Nat.le_of_ble_eq_true rfl, Nat.le_of_ble_eq_true rfl⟩ rfl (by decide) dX8_firstWay_36 (kI (fun v4 => ?_))
  refine x_ldc C (1000000) wd1257 rfl dX8_firstWay_39 ?_
  refine x_icmp_lt C 46 rfl (zIl _ rfl) dX8_firstWay_41 rfl (fun c5 => x_op c5 ?_) (fun c5 => x_on c5 ?_)
  · refine x_iconst C (1) dX8_firstWay_46 rfl ?_
    refine x_istore_n (L' := [(2, _), (0, _), (1, _)]) C dX8_firstWay_47 rfl (by decide) rfl ?_
    refine x_iconst C (0) dX8_firstWay_48 rfl ?_
    refine x_istore_n (L' := [(3, _), (2, _), (0, _), (1, _)]) C dX8_firstWay_49 rfl (by decide) rfl ?_
    refine x_pick [2, 3, 1, 0] rfl ?_
    refine x_loop (fun t6 : Int × Int => s3) (fun t6 : Int × Int => [(0, .ref (xqa (xXE X).2.2 k0)), (1, .ref (xqa (xXE X).2.2 k1)), (2, iV t6.1), (3, iV t6.2)]) (fun rec7 hr8 t6 => ?_) n (1, 0)
    refine x_iload_n C 3 dX8_firstWay_50 rfl rfl ?_
    refine x_aload_n C 0 dX8_firstWay_51 rfl rfl ?_
    refine x_get (v := iV (s3 k0 3)) C 3 cls_X8 (at_X8 hk0) (by decide) wd629 rfl rfl dX8_firstWay_52 ?_
    refine x_callS C (ct_J6_bitCount_0f7a4 _ _ (s3 k0 3) s3) mt_J6_bitCount_0f7a4 st_J6_bitCount_0f7a4 wd1258 rfl ⟨rfl, rfl, Nat.le_of_ble_eq_true rfl, Nat.le_of_ble_eq_true rfl⟩ rfl (Nat.le_of_ble_eq_true rfl) dX8_firstWay_55 (kI (fun v9 => ?_))
    refine x_icmp_ge C 74 rfl rfl dX8_firstWay_58 rfl (fun c10 => x_op c10 ?_) (fun c10 => x_on c10 ?_)
    · refine x_iload_n C 2 dX8_firstWay_74 rfl rfl ?_
      exact x_iretQ C (hQ _ _) rfl dX8_firstWay_75
    · refine x_iload_n C 2 dX8_firstWay_61 rfl rfl ?_
      refine x_aload_n C 1 dX8_firstWay_62 rfl rfl ?_
      refine x_get (v := iV (s3 k1 11)) C 11 cls_X1 (at_X1 hk1) (by decide) wd481 rfl rfl dX8_firstWay_63 ?_
      refine x_imul C dX8_firstWay_66 ?_
      refine x_letI (fun v11 => ?_)
      refine x_istore_n (L' := [(2, _), (0, _), (1, _), (3, _)]) C dX8_firstWay_67 rfl (by decide) rfl ?_
      refine x_inc C 3 (f := _) dX8_firstWay_68 rfl (by decide) (1) rfl (fun v12 => ?_)
      refine x_reL (L' := [(3, _), (2, _), (0, _), (1, _)]) rfl ?_
      refine x_goto C 50 dX8_firstWay_71 rfl ?_
      refine x_pick [2, 3, 1, 0] rfl ?_
      exact hr8 (v11, v12)
  · refine x_iconst C (0) dX8_firstWay_44 rfl ?_
    exact x_iretQ C (hQ _ _) rfl dX8_firstWay_45
theorem ct_X8_firstWay (l : Launch) (E : xE) (n : Nat) (k0 : Nat) (k1 : Nat) (σ : xS) (hk0 : isPl k0) (hk1 : isBk k1)  : xMet l E yX8_firstWay cX8_firstWay 4 (some .int) { frames := 1, cells := 0, slots := 0, locals := 23 } [.ref (xqa E.2.2 k0), .ref (xqa E.2.2 k1)] WW WW σ (xrS (m_X8_firstWay n k0 k1 σ)) := by
  refine xMet.of0 (by decide) (Nat.le_of_ble_eq_true rfl) rfl rfl (fun X hE C => ?_)
  subst hE
  exact xMap (fun q => (some (iV q.1), q.2)) (wk_X8_firstWay C (fun _ _ => rfl) hk0 hk1)
theorem mt_X8_firstWay : xMth yX8_firstWay cX8_firstWay 4 (some .int) 1 := ⟨wd1255, wd163, ⟨by decide, by decide, rfl⟩⟩
theorem vr_X8_firstWay : xVir yX8_firstWay := ⟨wd1254, wd42⟩
def m_X8_canCarry (n : Nat) (k0 : Nat) (k1 : Nat) (σ : xS) : Option Int :=
  loopF (fun rec2 (t1 : Int) => if (zI (σ k1 11)) ≤ (zI t1) then some 1 else xck (zI t1) 3 <| xck (zI (σ (k0 + 8) (zI t1).toNat)) 128 <| xck (zI t1) 3 <| if (zI (σ (k0 + 4) (zI (σ (k0 + 8) (zI t1).toNat)).toNat)) ≤ (zI (σ (k1 + 38) (zI t1).toNat)) then xlet (t1 + 1) fun v6 => rec2 v6 else some 0) n 0
set_option maxHeartbeats 4000000 in
set_option maxRecDepth 100000 in
theorem wk_X8_canCarry {X : xX} {Qf : Int → State → Prop} {n : Nat} {k0 : Nat} {k1 : Nat} {σ : xS} (C : xCx X cX8_canCarry "BakeryNight$Plan" (some .boolean) { frames := 0, cells := 0, slots := 0, locals := 0 } 3) (hQ : ∀ v, Qf v = xQf X WW (some (iV v), σ)) (hk0 : isPl k0) (hk1 : isBk k1) : WO X Qf WW σ 0 [(0, .ref (xqa (xXE X).2.2 k0)), (1, .ref (xqa (xXE X).2.2 k1))] [] (m_X8_canCarry n k0 k1 σ) := by
  unfold m_X8_canCarry
  refine x_iconst C (0) dX8_canCarry_0 rfl ?_
  refine x_istore_n (L' := [(2, _), (0, _), (1, _)]) C dX8_canCarry_1 rfl (by decide) rfl ?_
  refine x_pick [1, 2, 0] rfl ?_
  refine x_loop (fun t1 : Int => σ) (fun t1 : Int => [(0, .ref (xqa (xXE X).2.2 k0)), (1, .ref (xqa (xXE X).2.2 k1)), (2, iV t1)]) (fun rec2 hr3 t1 => ?_) n 0
  refine x_iload_n C 2 dX8_canCarry_2 rfl rfl ?_
  refine x_aload_n C 1 dX8_canCarry_3 rfl rfl ?_
  refine x_get (v := iV (σ k1 11)) C 11 cls_X1 (at_X1 hk1) (by decide) wd481 rfl rfl dX8_canCarry_4 ?_
  refine x_icmp_ge C 38 rfl rfl dX8_canCarry_7 rfl (fun c4 => x_op c4 ?_) (fun c4 => x_on c4 ?_)
  · refine x_iconst C (1) dX8_canCarry_38 rfl ?_
    exact x_zretQ C (hQ _) rfl (Or.inr rfl) dX8_canCarry_39
  · refine x_aload_n C 0 dX8_canCarry_10 rfl rfl ?_
    refine x_get (v := .ref (xqa (xXE X).2.2 (k0 + 4))) C 5 cls_X8 (at_X8 hk0) (by decide) wd631 rfl (xV_r (rt_X8_setLoad hk0 _) rfl) dX8_canCarry_11 ?_
    refine x_aload_n C 0 dX8_canCarry_14 rfl rfl ?_
    refine x_get (v := .ref (xqa (xXE X).2.2 (k0 + 8))) C 9 cls_X8 (at_X8 hk0) (by decide) wd635 rfl (xV_r (rt_X8_shopsOfVan hk0 _) rfl) dX8_canCarry_15 ?_
    refine x_iload_n C 2 dX8_canCarry_18 rfl rfl ?_
    refine x_iald C (at_X8_shopsOfVan hk0) rfl dX8_canCarry_19 (fun _ => ?_)
    refine x_iald C (at_X8_setLoad hk0) rfl dX8_canCarry_20 (fun _ => ?_)
    refine x_aload_n C 1 dX8_canCarry_21 rfl rfl ?_
    refine x_get (v := .ref (xqa (xXE X).2.2 (k1 + 38))) C 10 cls_X1 (at_X1 hk1) (by decide) wd478 rfl (xV_r (rt_X1_vanLoads hk1 _) rfl) dX8_canCarry_22 ?_
    refine x_iload_n C 2 dX8_canCarry_25 rfl rfl ?_
    refine x_iald C (at_X1_vanLoads hk1) rfl dX8_canCarry_26 (fun _ => ?_)
    refine x_icmp_le C 32 rfl rfl dX8_canCarry_27 rfl (fun c5 => x_op c5 ?_) (fun c5 => x_on c5 ?_)
    · refine x_inc C 2 (f := _) dX8_canCarry_32 rfl (by decide) (1) rfl (fun v6 => ?_)
      refine x_reL (L' := [(2, _), (0, _), (1, _)]) rfl ?_
      refine x_goto C 2 dX8_canCarry_35 rfl ?_
      refine x_pick [1, 2, 0] rfl ?_
      exact hr3 v6
    · refine x_iconst C (0) dX8_canCarry_30 rfl ?_
      exact x_zretQ C (hQ _) rfl (Or.inl rfl) dX8_canCarry_31
theorem ct_X8_canCarry (l : Launch) (E : xE) (n : Nat) (k0 : Nat) (k1 : Nat) (σ : xS) (hk0 : isPl k0) (hk1 : isBk k1)  : xMet l E yX8_canCarry cX8_canCarry 3 (some .boolean) { frames := 0, cells := 0, slots := 0, locals := 0 } [.ref (xqa E.2.2 k0), .ref (xqa E.2.2 k1)] WW WW σ (xrI (m_X8_canCarry n k0 k1 σ) σ) := by
  refine xMet.of0 (by decide) (Nat.le_of_ble_eq_true rfl) rfl rfl (fun X hE C => ?_)
  subst hE
  exact xMap (fun v => (some (iV v), σ)) (wk_X8_canCarry C (fun _ => rfl) hk0 hk1)
theorem mt_X8_canCarry : xMth yX8_canCarry cX8_canCarry 3 (some .boolean) 1 := ⟨wd1262, wd163, ⟨by decide, by decide, rfl⟩⟩
theorem vr_X8_canCarry : xVir yX8_canCarry := ⟨wd1261, wd43⟩
def m_X8_nextWay (n : Nat) (k0 : Nat) (k1 : Nat) (σ : xS) : Option xS :=
  loopF (fun rec2 (t1 : Int × xS) => if (zI t1.1) < 0 then some t1.2 else xlet (zshl 1 t1.1) fun v5 => xj (fun (q8 : xS) => xlet (t1.1 + (-1)) fun v9 => rec2 (v9, q8)) fun J6 => if (zI (zand (t1.2 k0 3) v5)) = 0 then J6 t1.2 else xck (zI t1.1) 7 <| xj (fun (q13 : Int) => xck (zI t1.1) 7 <| xck (zI (t1.2 (k0 + 9) (zI t1.1).toNat)) 3 <| xck (zI (t1.2 (k0 + 9) (zI t1.1).toNat)) 3 <| xlet (xput t1.2 (k0 + 8) (zI (t1.2 (k0 + 9) (zI t1.1).toNat)).toNat (zand (t1.2 (k0 + 8) (zI (t1.2 (k0 + 9) (zI t1.1).toNat)).toNat) (zxor v5 (-1)))) fun s14 => xck (zI q13) 3 <| xck (zI q13) 3 <| xlet (xput s14 (k0 + 8) (zI q13).toNat (zor (s14 (k0 + 8) (zI q13).toNat) v5)) fun s15 => xck (zI t1.1) 7 <| xlet (xput s15 (k0 + 9) (zI t1.1).toNat q13) fun s16 => if (zI q13) = 0 then J6 s16 else some s16) fun J11 => if (zI (t1.2 k1 11)) ≤ (zI ((t1.2 (k0 + 9) (zI t1.1).toNat) + 1)) then J11 0 else xck (zI t1.1) 7 <| J11 ((t1.2 (k0 + 9) (zI t1.1).toNat) + 1)) n (6, σ)
set_option maxHeartbeats 4000000 in
set_option maxRecDepth 100000 in
theorem wk_X8_nextWay {X : xX} {Qf : xS → State → Prop} {n : Nat} {k0 : Nat} {k1 : Nat} {σ : xS} (C : xCx X cX8_nextWay "BakeryNight$Plan" none { frames := 0, cells := 0, slots := 0, locals := 0 } 5) (hQ : ∀ τ, Qf τ = xQf X WW (none, τ)) (hk0 : isPl k0) (hk1 : isBk k1) : WO X Qf WW σ 0 [(0, .ref (xqa (xXE X).2.2 k0)), (1, .ref (xqa (xXE X).2.2 k1))] [] (m_X8_nextWay n k0 k1 σ) := by
  unfold m_X8_nextWay
  refine x_bipush C (6) dX8_nextWay_0 rfl ?_
  refine x_istore_n (L' := [(2, _), (0, _), (1, _)]) C dX8_nextWay_2 rfl (by decide) rfl ?_
  refine x_pick [1, 2, 0] rfl ?_
  refine x_loop (fun t1 : Int × xS => t1.2) (fun t1 : Int × xS => [(0, .ref (xqa (xXE X).2.2 k0)), (1, .ref (xqa (xXE X).2.2 k1)), (2, iV t1.1)]) (fun rec2 hr3 t1 => ?_) n (6, σ)
  refine x_iload_n C 2 dX8_nextWay_3 rfl rfl ?_
  refine x_if_lt C 97 rfl dX8_nextWay_4 rfl (fun c4 => x_op c4 ?_) (fun c4 => x_on c4 ?_)
  · exact x_vretQ C (hQ _) rfl dX8_nextWay_97
  · refine x_iconst C (1) dX8_nextWay_7 rfl ?_
    refine x_iload_n C 2 dX8_nextWay_8 rfl rfl ?_
    refine x_ishl C dX8_nextWay_9 ?_
    refine x_letI (fun v5 => ?_)
    refine x_istore_n (L' := [(3, _), (0, _), (1, _), (2, _)]) C dX8_nextWay_10 rfl (by decide) rfl ?_
    refine x_aload_n C 1 dX8_nextWay_11 rfl rfl ?_
    refine x_get (v := iV (t1.2 k0 3)) C 3 cls_X8 (at_X8 hk0) (by decide) wd629 rfl rfl dX8_nextWay_12 ?_
    refine x_iload_n C 0 dX8_nextWay_15 rfl rfl ?_
    refine x_iand C dX8_nextWay_16 ?_
    refine x_join (fun J => ∀ q8 : xS, WO X Qf WW q8 91 [(0, .ref (xqa (xXE X).2.2 k0)), (1, .ref (xqa (xXE X).2.2 k1)), (2, iV t1.1)] [] (J q8)) ?_ ?_
    · intro q8
      refine x_inc C 2 (f := _) dX8_nextWay_91 rfl (by decide) (-1) rfl (fun v9 => ?_)
      refine x_reL (L' := [(2, _), (0, _), (1, _)]) rfl ?_
      refine x_goto C 3 dX8_nextWay_94 rfl ?_
      refine x_pick [1, 2, 0] rfl ?_
      exact hr3 (v9, q8)
    · intro J6 hJ7
      refine x_if_eq C 91 rfl dX8_nextWay_17 rfl (fun c10 => x_op c10 ?_) (fun c10 => x_on c10 ?_)
      · refine x_pick [1, 2, 3] rfl ?_
        exact hJ7 t1.2
      · refine x_aload_n C 1 dX8_nextWay_20 rfl rfl ?_
        refine x_get (v := .ref (xqa (xXE X).2.2 (k0 + 9))) C 10 cls_X8 (at_X8 hk0) (by decide) wd636 rfl (xV_r (rt_X8_vanOfShop hk0 _) rfl) dX8_nextWay_21 ?_
        refine x_iload_n C 3 dX8_nextWay_24 rfl rfl ?_
        refine x_iald C (at_X8_vanOfShop hk0) rfl dX8_nextWay_25 (fun _ => ?_)
        refine x_iconst C (1) dX8_nextWay_26 rfl ?_
        refine x_iadd C dX8_nextWay_27 ?_
        refine x_aload_n C 2 dX8_nextWay_28 rfl rfl ?_
        refine x_get (v := iV (t1.2 k1 11)) C 11 cls_X1 (at_X1 hk1) (by decide) wd481 rfl rfl dX8_nextWay_29 ?_
        refine x_join (fun J => ∀ q13 : Int, WO X Qf WW t1.2 47 [(0, .ref (xqa (xXE X).2.2 k0)), (1, .ref (xqa (xXE X).2.2 k1)), (2, iV t1.1), (3, iV v5)] [iV q13] (J q13)) ?_ ?_
        · intro q13
          refine x_istore (L' := [(4, _), (0, _), (1, _), (2, _), (3, _)]) C dX8_nextWay_47 (by decide) rfl ?_
          refine x_aload_n C 1 dX8_nextWay_49 rfl rfl ?_
          refine x_get (v := .ref (xqa (xXE X).2.2 (k0 + 8))) C 9 cls_X8 (at_X8 hk0) (by decide) wd635 rfl (xV_r (rt_X8_shopsOfVan hk0 _) rfl) dX8_nextWay_50 ?_
          refine x_aload_n C 1 dX8_nextWay_53 rfl rfl ?_
          refine x_get (v := .ref (xqa (xXE X).2.2 (k0 + 9))) C 10 cls_X8 (at_X8 hk0) (by decide) wd636 rfl (xV_r (rt_X8_vanOfShop hk0 _) rfl) dX8_nextWay_54 ?_
          refine x_iload_n C 3 dX8_nextWay_57 rfl rfl ?_
          refine x_iald C (at_X8_vanOfShop hk0) rfl dX8_nextWay_58 (fun _ => ?_)
          refine x_dup2 C dX8_nextWay_59 rfl rfl ?_
          refine x_iald C (at_X8_shopsOfVan hk0) rfl dX8_nextWay_60 (fun _ => ?_)
          refine x_iload_n C 4 dX8_nextWay_61 rfl rfl ?_
          refine x_iconst C (-1) dX8_nextWay_62 rfl ?_
          refine x_ixor C dX8_nextWay_63 ?_
          refine x_iand C dX8_nextWay_64 ?_
          refine x_iast C (at_X8_shopsOfVan hk0) rfl dX8_nextWay_65 (fun _ => ?_)
          refine x_letS (fun s14 => ?_)
          refine x_aload_n C 1 dX8_nextWay_66 rfl rfl ?_
          refine x_get (v := .ref (xqa (xXE X).2.2 (k0 + 8))) C 9 cls_X8 (at_X8 hk0) (by decide) wd635 rfl (xV_r (rt_X8_shopsOfVan hk0 _) rfl) dX8_nextWay_67 ?_
          refine x_iload C 0 dX8_nextWay_70 rfl ?_
          refine x_dup2 C dX8_nextWay_72 rfl rfl ?_
          refine x_iald C (at_X8_shopsOfVan hk0) rfl dX8_nextWay_73 (fun _ => ?_)
          refine x_iload_n C 4 dX8_nextWay_74 rfl rfl ?_
          refine x_ior C dX8_nextWay_75 ?_
          refine x_iast C (at_X8_shopsOfVan hk0) rfl dX8_nextWay_76 (fun _ => ?_)
          refine x_letS (fun s15 => ?_)
          refine x_aload_n C 1 dX8_nextWay_77 rfl rfl ?_
          refine x_get (v := .ref (xqa (xXE X).2.2 (k0 + 9))) C 10 cls_X8 (at_X8 hk0) (by decide) wd636 rfl (xV_r (rt_X8_vanOfShop hk0 _) rfl) dX8_nextWay_78 ?_
          refine x_iload_n C 3 dX8_nextWay_81 rfl rfl ?_
          refine x_iload C 0 dX8_nextWay_82 rfl ?_
          refine x_iast C (at_X8_vanOfShop hk0) rfl dX8_nextWay_84 (fun _ => ?_)
          refine x_letS (fun s16 => ?_)
          refine x_iload C 0 dX8_nextWay_85 rfl ?_
          refine x_if_eq C 91 rfl dX8_nextWay_87 rfl (fun c17 => x_op c17 ?_) (fun c17 => x_on c17 ?_)
          · refine x_pick [1, 2, 3] rfl ?_
            exact hJ7 s16
          · exact x_vretQ C (hQ _) rfl dX8_nextWay_90
        · intro J11 hJ12
          refine x_icmp_ge C 46 rfl rfl dX8_nextWay_32 rfl (fun c18 => x_op c18 ?_) (fun c18 => x_on c18 ?_)
          · refine x_iconst C (0) dX8_nextWay_46 rfl ?_
            refine x_pick [1, 2, 3, 0] rfl ?_
            exact hJ12 0
          · refine x_aload_n C 1 dX8_nextWay_35 rfl rfl ?_
            refine x_get (v := .ref (xqa (xXE X).2.2 (k0 + 9))) C 10 cls_X8 (at_X8 hk0) (by decide) wd636 rfl (xV_r (rt_X8_vanOfShop hk0 _) rfl) dX8_nextWay_36 ?_
            refine x_iload_n C 3 dX8_nextWay_39 rfl rfl ?_
            refine x_iald C (at_X8_vanOfShop hk0) rfl dX8_nextWay_40 (fun _ => ?_)
            refine x_iconst C (1) dX8_nextWay_41 rfl ?_
            refine x_iadd C dX8_nextWay_42 ?_
            refine x_goto C 47 dX8_nextWay_43 rfl ?_
            refine x_pick [1, 2, 3, 0] rfl ?_
            exact hJ12 ((t1.2 (k0 + 9) (zI t1.1).toNat) + 1)
theorem ct_X8_nextWay (l : Launch) (E : xE) (n : Nat) (k0 : Nat) (k1 : Nat) (σ : xS) (hk0 : isPl k0) (hk1 : isBk k1)  : xMet l E yX8_nextWay cX8_nextWay 5 none { frames := 0, cells := 0, slots := 0, locals := 0 } [.ref (xqa E.2.2 k0), .ref (xqa E.2.2 k1)] WW WW σ (xrV (m_X8_nextWay n k0 k1 σ)) := by
  refine xMet.of0 (by decide) (Nat.le_of_ble_eq_true rfl) rfl rfl (fun X hE C => ?_)
  subst hE
  exact xMap (fun q => (none, q)) (wk_X8_nextWay C (fun _ => rfl) hk0 hk1)
theorem mt_X8_nextWay : xMth yX8_nextWay cX8_nextWay 5 none 1 := ⟨wd1267, wd163, ⟨by decide, by decide, rfl⟩⟩
theorem vr_X8_nextWay : xVir yX8_nextWay := ⟨wd1266, wd44⟩
def m_X8_choose (n : Nat) (k0 : Nat) (k1 : Nat) (σ : xS) : Option xS :=
  xlet (xput σ k0 11 0) fun s1 => (m_X8_measureSets n k0 k1 s1).bind fun s2 => xbS (m_X8_firstWay n k0 k1 s2) fun v4 s3 => loopF (fun rec6 (t5 : Int × Int × xS) => if (zI v4) ≤ (zI t5.2.1) then loopF (fun rec10 (t9 : Int × xS) => xj (fun (q14 : Unit) => some t9.2) fun J12 => if (zI (t9.2 k1 11)) ≤ (zI t9.1) then J12 () else if (zI (t9.2 k0 11)) = 0 then J12 () else xck (zI t9.1) 3 <| (m_X8_drive n k0 (k1 + 39) (t9.2 (k0 + 10) (zI t9.1).toNat) t9.2).bind fun s17 => xlet (t9.1 + 1) fun v18 => rec10 (v18, s17)) n (0, t5.2.2) else (m_X8_canCarry n k0 k1 t5.2.2).bind fun v19 => xj (fun (q22 : Int × xS) => (m_X8_nextWay n k0 k1 q22.2).bind fun s23 => xlet (t5.2.1 + 1) fun v24 => rec6 (q22.1, v24, s23)) fun J20 => if (zI v19) = 0 then J20 (t5.1, t5.2.2) else loopF (fun rec27 (t26 : Int × Int × Int) => if (zI (t5.2.2 k1 11)) ≤ (zI t26.2.2) then xj (fun (q33 : Unit) => xlet (xput t5.2.2 k0 11 1) fun s34 => xlet (xput s34 k0 12 t26.1) fun s35 => xcc 0 0 3 3 3 <| xlet (xcpy s35 (k0 + 8) (k0 + 10) 0 0 3) fun s36 => J20 (t26.2.1, s36)) fun J31 => if (zI (t5.2.2 k0 11)) = 0 then J31 () else if (zI t26.1) < (zI (t5.2.2 k0 12)) then J31 () else if (zI t26.1) = (zI (t5.2.2 k0 12)) then if (zI t5.1) ≤ (zI t26.2.1) then J20 (t5.1, t5.2.2) else J31 () else J20 (t5.1, t5.2.2) else xck (zI t26.2.2) 3 <| xck (zI (t5.2.2 (k0 + 8) (zI t26.2.2).toNat)) 128 <| xlet (t26.1 + (t5.2.2 (k0 + 5) (zI (t5.2.2 (k0 + 8) (zI t26.2.2).toNat)).toNat)) fun v41 => xck (zI t26.2.2) 3 <| xck (zI (t5.2.2 (k0 + 8) (zI t26.2.2).toNat)) 128 <| xlet (t26.2.1 + (t5.2.2 (k0 + 6) (zI (t5.2.2 (k0 + 8) (zI t26.2.2).toNat)).toNat)) fun v42 => xlet (t26.2.2 + 1) fun v43 => rec27 (v41, v42, v43)) n (0, 0, 0)) n (0, 0, s3)
set_option maxHeartbeats 4000000 in
set_option maxRecDepth 100000 in
theorem wk_X8_choose {X : xX} {Qf : xS → State → Prop} {n : Nat} {k0 : Nat} {k1 : Nat} {σ : xS} (C : xCx X cX8_choose "BakeryNight$Plan" none { frames := 4, cells := 0, slots := 0, locals := 96 } 8) (hQ : ∀ τ, Qf τ = xQf X WW (none, τ)) (hk0 : isPl k0) (hk1 : isBk k1) : WO X Qf WW σ 0 [(0, .ref (xqa (xXE X).2.2 k0)), (1, .ref (xqa (xXE X).2.2 k1))] [] (m_X8_choose n k0 k1 σ) := by
  unfold m_X8_choose
  refine x_aload_n C 0 dX8_choose_0 rfl rfl ?_
  refine x_iconst C (0) dX8_choose_1 rfl ?_
  refine x_put C 11 0 cls_X8 (at_X8 hk0) (by decide) wd637 rfl rfl (xnb (Or.inl rfl)) (xfb (Or.inl rfl)) (xV_pI rfl) dX8_choose_2 ?_
  refine x_letS (fun s1 => ?_)
  refine x_iconst C (0) dX8_choose_5 rfl ?_
  refine x_istore_n (L' := [(2, _), (0, _), (1, _)]) C dX8_choose_6 rfl (by decide) rfl ?_
  refine x_aload_n C 1 dX8_choose_7 rfl rfl ?_
  refine x_aload_n C 2 dX8_choose_8 rfl rfl ?_
  refine x_callV C (ct_X8_measureSets _ _ n k0 k1 s1 hk0 hk1) mt_X8_measureSets vr_X8_measureSets wd1238 cls_X8 (at_X8 hk0) rfl ⟨rfl, rfl, Nat.le_of_ble_eq_true rfl, Nat.le_of_ble_eq_true rfl⟩ rfl (by decide) dX8_choose_9 (kV (fun s2 => ?_))
  refine x_aload_n C 1 dX8_choose_12 rfl rfl ?_
  refine x_aload_n C 2 dX8_choose_13 rfl rfl ?_
  refine x_callV C (ct_X8_firstWay _ _ n k0 k1 s2 hk0 hk1) mt_X8_firstWay vr_X8_firstWay wd1252 cls_X8 (at_X8 hk0) rfl ⟨rfl, rfl, Nat.le_of_ble_eq_true rfl, Nat.le_of_ble_eq_true rfl⟩ rfl (by decide) dX8_choose_14 (kS (fun v4 s3 => ?_))
  refine x_istore_n (L' := [(3, _), (2, _), (0, _), (1, _)]) C dX8_choose_17 rfl (by decide) rfl ?_
  refine x_iconst C (0) dX8_choose_18 rfl ?_
  refine x_istore (L' := [(4, _), (3, _), (2, _), (0, _), (1, _)]) C dX8_choose_19 (by decide) rfl ?_
  refine x_pick [3, 4, 2, 1, 0] rfl ?_
  refine x_loop (fun t5 : Int × Int × xS => t5.2.2) (fun t5 : Int × Int × xS => [(0, .ref (xqa (xXE X).2.2 k0)), (1, .ref (xqa (xXE X).2.2 k1)), (2, iV t5.1), (3, iV v4), (4, iV t5.2.1)]) (fun rec6 hr7 t5 => ?_) n (0, 0, s3)
  refine x_iload C 4 dX8_choose_21 rfl ?_
  refine x_iload_n C 3 dX8_choose_23 rfl rfl ?_
  refine x_icmp_ge C 167 rfl rfl dX8_choose_24 rfl (fun c8 => x_op c8 ?_) (fun c8 => x_on c8 ?_)
  · refine x_iconst C (0) dX8_choose_167 rfl ?_
    refine x_istore (L' := [(4, _), (0, _), (1, _), (2, _), (3, _)]) C dX8_choose_168 (by decide) rfl ?_
    refine x_pick [1, 2, 0] rfl ?_
    refine x_loop (fun t9 : Int × xS => t9.2) (fun t9 : Int × xS => [(0, .ref (xqa (xXE X).2.2 k0)), (1, .ref (xqa (xXE X).2.2 k1)), (4, iV t9.1)]) (fun rec10 hr11 t9 => ?_) n (0, t5.2.2)
    refine x_iload C 2 dX8_choose_170 rfl ?_
    refine x_aload_n C 1 dX8_choose_172 rfl rfl ?_
    refine x_get (v := iV (t9.2 k1 11)) C 11 cls_X1 (at_X1 hk1) (by decide) wd481 rfl rfl dX8_choose_173 ?_
    refine x_join (fun J => ∀ q14 : Unit, WO X Qf WW t9.2 207 [] [] (J q14)) ?_ ?_
    · intro q14
      exact x_vretQ C (hQ _) rfl dX8_choose_207
    · intro J12 hJ13
      refine x_icmp_ge C 207 rfl rfl dX8_choose_176 rfl (fun c15 => x_op c15 ?_) (fun c15 => x_on c15 ?_)
      · refine x_pick [] rfl ?_
        exact hJ13 ()
      · refine x_aload_n C 0 dX8_choose_179 rfl rfl ?_
        refine x_get (v := iV (t9.2 k0 11)) C 11 cls_X8 (at_X8 hk0) (by decide) wd637 rfl rfl dX8_choose_180 ?_
        refine x_if_eq C 207 rfl dX8_choose_183 rfl (fun c16 => x_op c16 ?_) (fun c16 => x_on c16 ?_)
        · refine x_pick [] rfl ?_
          exact hJ13 ()
        · refine x_aload_n C 0 dX8_choose_186 rfl rfl ?_
          refine x_aload_n C 1 dX8_choose_187 rfl rfl ?_
          refine x_get (v := .ref (xqa (xXE X).2.2 (k1 + 39))) C 9 cls_X1 (at_X1 hk1) (by decide) wd475 rfl (xV_r (rt_X1_roads hk1 _) rfl) dX8_choose_188 ?_
          refine x_aload_n C 0 dX8_choose_191 rfl rfl ?_
          refine x_get (v := .ref (xqa (xXE X).2.2 (k0 + 10))) C 13 cls_X8 (at_X8 hk0) (by decide) wd641 rfl (xV_r (rt_X8_bestShops hk0 _) rfl) dX8_choose_192 ?_
          refine x_iload C 2 dX8_choose_195 rfl ?_
          refine x_iald C (at_X8_bestShops hk0) rfl dX8_choose_197 (fun _ => ?_)
          refine x_callV C (ct_X8_drive _ _ n k0 (k1 + 39) (t9.2 (k0 + 10) (zI t9.1).toNat) t9.2 hk0 (rd_bk hk1)) mt_X8_drive vr_X8_drive wd1242 cls_X8 (at_X8 hk0) rfl ⟨rfl, rfl, Nat.le_of_ble_eq_true rfl, Nat.le_of_ble_eq_true rfl⟩ rfl (by decide) dX8_choose_198 (kV (fun s17 => ?_))
          refine x_inc C 2 (f := _) dX8_choose_201 rfl (by decide) (1) rfl (fun v18 => ?_)
          refine x_reL (L' := [(4, _), (0, _), (1, _)]) rfl ?_
          refine x_goto C 170 dX8_choose_204 rfl ?_
          refine x_pick [1, 2, 0] rfl ?_
          exact hr11 (v18, s17)
  · refine x_aload_n C 0 dX8_choose_27 rfl rfl ?_
    refine x_aload_n C 1 dX8_choose_28 rfl rfl ?_
    refine x_callV C (ct_X8_canCarry _ _ n k0 k1 t5.2.2 hk0 hk1) mt_X8_canCarry vr_X8_canCarry wd1259 cls_X8 (at_X8 hk0) rfl ⟨rfl, rfl, Nat.le_of_ble_eq_true rfl, Nat.le_of_ble_eq_true rfl⟩ rfl (by decide) dX8_choose_29 (kI (fun v19 => ?_))
    refine x_join (fun J => ∀ q22 : Int × xS, WO X Qf WW q22.2 156 [(0, .ref (xqa (xXE X).2.2 k0)), (1, .ref (xqa (xXE X).2.2 k1)), (2, iV q22.1), (3, iV v4), (4, iV t5.2.1)] [] (J q22)) ?_ ?_
    · intro q22
      refine x_aload_n C 0 dX8_choose_156 rfl rfl ?_
      refine x_aload_n C 1 dX8_choose_157 rfl rfl ?_
      refine x_callV C (ct_X8_nextWay _ _ n k0 k1 q22.2 hk0 hk1) mt_X8_nextWay vr_X8_nextWay wd1264 cls_X8 (at_X8 hk0) rfl ⟨rfl, rfl, Nat.le_of_ble_eq_true rfl, Nat.le_of_ble_eq_true rfl⟩ rfl (by decide) dX8_choose_158 (kV (fun s23 => ?_))
      refine x_inc C 4 (f := _) dX8_choose_161 rfl (by decide) (1) rfl (fun v24 => ?_)
      refine x_reL (L' := [(4, _), (0, _), (1, _), (2, _), (3, _)]) rfl ?_
      refine x_goto C 21 dX8_choose_164 rfl ?_
      refine x_pick [1, 2, 3, 4, 0] rfl ?_
      exact hr7 (q22.1, v24, s23)
    · intro J20 hJ21
      refine x_if_eq C 156 rfl dX8_choose_32 rfl (fun c25 => x_op c25 ?_) (fun c25 => x_on c25 ?_)
      · refine x_pick [0, 1, 2, 3, 4] rfl ?_
        exact hJ21 (t5.1, t5.2.2)
      · refine x_iconst C (0) dX8_choose_35 rfl ?_
        refine x_istore (L' := [(5, _), (0, _), (1, _), (2, _), (3, _), (4, _)]) C dX8_choose_36 (by decide) rfl ?_
        refine x_iconst C (0) dX8_choose_38 rfl ?_
        refine x_istore (L' := [(6, _), (5, _), (0, _), (1, _), (2, _), (3, _), (4, _)]) C dX8_choose_39 (by decide) rfl ?_
        refine x_iconst C (0) dX8_choose_41 rfl ?_
        refine x_istore (L' := [(7, _), (6, _), (5, _), (0, _), (1, _), (2, _), (3, _), (4, _)]) C dX8_choose_42 (by decide) rfl ?_
        refine x_pick [3, 4, 5, 6, 7, 2, 1, 0] rfl ?_
        refine x_loop (fun t26 : Int × Int × Int => t5.2.2) (fun t26 : Int × Int × Int => [(0, .ref (xqa (xXE X).2.2 k0)), (1, .ref (xqa (xXE X).2.2 k1)), (2, iV t5.1), (3, iV v4), (4, iV t5.2.1), (5, iV t26.1), (6, iV t26.2.1), (7, iV t26.2.2)]) (fun rec27 hr28 t26 => ?_) n (0, 0, 0)
        refine x_iload C 7 dX8_choose_44 rfl ?_
        refine x_aload_n C 1 dX8_choose_46 rfl rfl ?_
        refine x_get (v := iV (t5.2.2 k1 11)) C 11 cls_X1 (at_X1 hk1) (by decide) wd481 rfl rfl dX8_choose_47 ?_
        refine x_icmp_ge C 93 rfl rfl dX8_choose_50 rfl (fun c29 => x_op c29 ?_) (fun c29 => x_on c29 ?_)
        · refine x_aload_n C 0 dX8_choose_93 rfl rfl ?_
          refine x_get (v := iV (t5.2.2 k0 11)) C 11 cls_X8 (at_X8 hk0) (by decide) wd637 rfl rfl dX8_choose_94 ?_
          refine x_join (fun J => ∀ q33 : Unit, WO X Qf WW t5.2.2 124 [(0, .ref (xqa (xXE X).2.2 k0)), (1, .ref (xqa (xXE X).2.2 k1)), (3, iV v4), (4, iV t5.2.1), (5, iV t26.1), (6, iV t26.2.1)] [] (J q33)) ?_ ?_
          · intro q33
            refine x_aload_n C 0 dX8_choose_124 rfl rfl ?_
            refine x_iconst C (1) dX8_choose_125 rfl ?_
            refine x_put C 11 1 cls_X8 (at_X8 hk0) (by decide) wd637 rfl rfl (xnb (Or.inr rfl)) (xfb (Or.inr rfl)) (xV_pI rfl) dX8_choose_126 ?_
            refine x_letS (fun s34 => ?_)
            refine x_aload_n C 0 dX8_choose_129 rfl rfl ?_
            refine x_iload C 4 dX8_choose_130 rfl ?_
            refine x_put C 12 t26.1 cls_X8 (at_X8 hk0) (by decide) wd639 rfl rfl rfl rfl (xV_pI rfl) dX8_choose_132 ?_
            refine x_letS (fun s35 => ?_)
            refine x_iload C 5 dX8_choose_135 rfl ?_
            refine x_istore_n (L' := [(2, _), (0, _), (1, _), (3, _), (4, _), (5, _), (6, _)]) C dX8_choose_137 rfl (by decide) rfl ?_
            refine x_aload_n C 1 dX8_choose_138 rfl rfl ?_
            refine x_get (v := .ref (xqa (xXE X).2.2 (k0 + 8))) C 9 cls_X8 (at_X8 hk0) (by decide) wd635 rfl (xV_r (rt_X8_shopsOfVan hk0 _) rfl) dX8_choose_139 ?_
            refine x_iconst C (0) dX8_choose_142 rfl ?_
            refine x_aload_n C 1 dX8_choose_143 rfl rfl ?_
            refine x_get (v := .ref (xqa (xXE X).2.2 (k0 + 10))) C 13 cls_X8 (at_X8 hk0) (by decide) wd641 rfl (xV_r (rt_X8_bestShops hk0 _) rfl) dX8_choose_144 ?_
            refine x_iconst C (0) dX8_choose_147 rfl ?_
            refine x_aload_n C 1 dX8_choose_148 rfl rfl ?_
            refine x_get (v := .ref (xqa (xXE X).2.2 (k0 + 10))) C 13 cls_X8 (at_X8 hk0) (by decide) wd641 rfl (xV_r (rt_X8_bestShops hk0 _) rfl) dX8_choose_149 ?_
            refine x_alen C 3 (at_X8_bestShops hk0) (Nat.le_of_ble_eq_true rfl) rfl dX8_choose_152 ?_
            refine x_copy C (at_X8_shopsOfVan hk0) (at_X8_bestShops hk0) (zIl _ rfl) (zIl _ rfl) (zIl _ rfl) wd1263 wd1109 wd1108 wd173 (Nat.le_of_ble_eq_true rfl) (Nat.le_of_ble_eq_true rfl) dX8_choose_153 (fun s36 => ?_)
            refine x_pick [1, 2, 0, 3, 4] rfl ?_
            exact hJ21 (t26.2.1, s36)
          · intro J31 hJ32
            refine x_if_eq C 124 rfl dX8_choose_97 rfl (fun c37 => x_op c37 ?_) (fun c37 => x_on c37 ?_)
            · refine x_pick [0, 1, 3, 4, 5, 6] rfl ?_
              exact hJ32 ()
            · refine x_iload C 5 dX8_choose_100 rfl ?_
              refine x_aload_n C 0 dX8_choose_102 rfl rfl ?_
              refine x_get (v := iV (t5.2.2 k0 12)) C 12 cls_X8 (at_X8 hk0) (by decide) wd639 rfl rfl dX8_choose_103 ?_
              refine x_icmp_lt C 124 rfl rfl dX8_choose_106 rfl (fun c38 => x_op c38 ?_) (fun c38 => x_on c38 ?_)
              · refine x_pick [0, 1, 3, 4, 5, 6] rfl ?_
                exact hJ32 ()
              · refine x_iload C 5 dX8_choose_109 rfl ?_
                refine x_aload_n C 0 dX8_choose_111 rfl rfl ?_
                refine x_get (v := iV (t5.2.2 k0 12)) C 12 cls_X8 (at_X8 hk0) (by decide) wd639 rfl rfl dX8_choose_112 ?_
                refine x_icmp_ne C 156 rfl rfl dX8_choose_115 rfl (fun c39 => x_on c39 ?_) (fun c39 => x_op c39 ?_)
                · refine x_pick [0, 1, 2, 3, 4] rfl ?_
                  exact hJ21 (t5.1, t5.2.2)
                · refine x_iload C 6 dX8_choose_118 rfl ?_
                  refine x_iload_n C 2 dX8_choose_120 rfl rfl ?_
                  refine x_icmp_ge C 156 rfl rfl dX8_choose_121 rfl (fun c40 => x_op c40 ?_) (fun c40 => x_on c40 ?_)
                  · refine x_pick [0, 1, 2, 3, 4] rfl ?_
                    exact hJ21 (t5.1, t5.2.2)
                  · refine x_pick [0, 1, 3, 4, 5, 6] rfl ?_
                    exact hJ32 ()
        · refine x_iload C 5 dX8_choose_53 rfl ?_
          refine x_aload_n C 0 dX8_choose_55 rfl rfl ?_
          refine x_get (v := .ref (xqa (xXE X).2.2 (k0 + 5))) C 6 cls_X8 (at_X8 hk0) (by decide) wd632 rfl (xV_r (rt_X8_setLate hk0 _) rfl) dX8_choose_56 ?_
          refine x_aload_n C 0 dX8_choose_59 rfl rfl ?_
          refine x_get (v := .ref (xqa (xXE X).2.2 (k0 + 8))) C 9 cls_X8 (at_X8 hk0) (by decide) wd635 rfl (xV_r (rt_X8_shopsOfVan hk0 _) rfl) dX8_choose_60 ?_
          refine x_iload C 7 dX8_choose_63 rfl ?_
          refine x_iald C (at_X8_shopsOfVan hk0) rfl dX8_choose_65 (fun _ => ?_)
          refine x_iald C (at_X8_setLate hk0) rfl dX8_choose_66 (fun _ => ?_)
          refine x_iadd C dX8_choose_67 ?_
          refine x_letI (fun v41 => ?_)
          refine x_istore (L' := [(5, _), (0, _), (1, _), (2, _), (3, _), (4, _), (6, _), (7, _)]) C dX8_choose_68 (by decide) rfl ?_
          refine x_iload C 6 dX8_choose_70 rfl ?_
          refine x_aload_n C 1 dX8_choose_72 rfl rfl ?_
          refine x_get (v := .ref (xqa (xXE X).2.2 (k0 + 6))) C 7 cls_X8 (at_X8 hk0) (by decide) wd633 rfl (xV_r (rt_X8_setMinutes hk0 _) rfl) dX8_choose_73 ?_
          refine x_aload_n C 1 dX8_choose_76 rfl rfl ?_
          refine x_get (v := .ref (xqa (xXE X).2.2 (k0 + 8))) C 9 cls_X8 (at_X8 hk0) (by decide) wd635 rfl (xV_r (rt_X8_shopsOfVan hk0 _) rfl) dX8_choose_77 ?_
          refine x_iload C 7 dX8_choose_80 rfl ?_
          refine x_iald C (at_X8_shopsOfVan hk0) rfl dX8_choose_82 (fun _ => ?_)
          refine x_iald C (at_X8_setMinutes hk0) rfl dX8_choose_83 (fun _ => ?_)
          refine x_iadd C dX8_choose_84 ?_
          refine x_letI (fun v42 => ?_)
          refine x_istore (L' := [(6, _), (5, _), (0, _), (1, _), (2, _), (3, _), (4, _), (7, _)]) C dX8_choose_85 (by decide) rfl ?_
          refine x_inc C 7 (f := _) dX8_choose_87 rfl (by decide) (1) rfl (fun v43 => ?_)
          refine x_reL (L' := [(7, _), (6, _), (5, _), (0, _), (1, _), (2, _), (3, _), (4, _)]) rfl ?_
          refine x_goto C 44 dX8_choose_90 rfl ?_
          refine x_pick [3, 4, 5, 6, 7, 2, 1, 0] rfl ?_
          exact hr28 (v41, v42, v43)
theorem ct_X8_choose (l : Launch) (E : xE) (n : Nat) (k0 : Nat) (k1 : Nat) (σ : xS) (hk0 : isPl k0) (hk1 : isBk k1)  : xMet l E yX8_choose cX8_choose 8 none { frames := 4, cells := 0, slots := 0, locals := 96 } [.ref (xqa E.2.2 k0), .ref (xqa E.2.2 k1)] WW WW σ (xrV (m_X8_choose n k0 k1 σ)) := by
  refine xMet.of0 (by decide) (Nat.le_of_ble_eq_true rfl) rfl rfl (fun X hE C => ?_)
  subst hE
  exact xMap (fun q => (none, q)) (wk_X8_choose C (fun _ => rfl) hk0 hk1)
theorem mt_X8_choose : xMth yX8_choose cX8_choose 8 none 1 := ⟨wd1237, wd163, ⟨by decide, by decide, rfl⟩⟩
theorem vr_X8_choose : xVir yX8_choose := ⟨wd1235, wd1236⟩
def m_X8_latest (n : Nat) (k0 : Nat) (k1 : Nat) (σ : xS) : Option (Int × xS) :=
  if (zI (σ k0 4)) = 0 then xlet (-1) fun v2 => (m_X8_measureSets n k0 k1 σ).bind fun s3 => xbS (m_X8_firstWay n k0 k1 s3) fun v5 s4 => loopF (fun rec7 (t6 : Int × Int × xS) => if (zI v5) ≤ (zI t6.2.1) then some (t6.1, t6.2.2) else (m_X8_canCarry n k0 k1 t6.2.2).bind fun v10 => xj (fun (q13 : Int) => (m_X8_nextWay n k0 k1 t6.2.2).bind fun s14 => xlet (t6.2.1 + 1) fun v15 => rec7 (q13, v15, s14)) fun J11 => if (zI v10) = 0 then J11 t6.1 else loopF (fun rec18 (t17 : Int × Int) => if (zI (t6.2.2 k1 11)) ≤ (zI t17.2) then xlet (zmax t6.1 t17.1) fun v21 => J11 v21 else xck (zI t17.2) 3 <| xck (zI (t6.2.2 (k0 + 8) (zI t17.2).toNat)) 128 <| xlet (zmin t17.1 (t6.2.2 (k0 + 7) (zI (t6.2.2 (k0 + 8) (zI t17.2).toNat)).toNat)) fun v22 => xlet (t17.2 + 1) fun v23 => rec18 (v22, v23)) n (1439, 0)) n (v2, 0, s4) else some ((-1), σ)
set_option maxHeartbeats 4000000 in
set_option maxRecDepth 100000 in
theorem wk_X8_latest {X : xX} {Qf : (Int × xS) → State → Prop} {n : Nat} {k0 : Nat} {k1 : Nat} {σ : xS} (C : xCx X cX8_latest "BakeryNight$Plan" (some .int) { frames := 4, cells := 0, slots := 0, locals := 96 } 7) (hQ : ∀ v τ, Qf (v, τ) = xQf X WW (some (iV v), τ)) (hk0 : isPl k0) (hk1 : isBk k1) : WO X Qf WW σ 0 [(0, .ref (xqa (xXE X).2.2 k0)), (1, .ref (xqa (xXE X).2.2 k1))] [] (m_X8_latest n k0 k1 σ) := by
  unfold m_X8_latest
  refine x_aload_n C 0 dX8_latest_0 rfl rfl ?_
  refine x_get (v := iV (σ k0 4)) C 4 cls_X8 (at_X8 hk0) (by decide) wd630 rfl rfl dX8_latest_1 ?_
  refine x_if_eq C 9 rfl dX8_latest_4 rfl (fun c1 => x_op c1 ?_) (fun c1 => x_on c1 ?_)
  · refine x_iconst C (-1) dX8_latest_9 rfl ?_
    refine x_letI (fun v2 => ?_)
    refine x_istore_n (L' := [(2, _), (0, _), (1, _)]) C dX8_latest_10 rfl (by decide) rfl ?_
    refine x_aload_n C 1 dX8_latest_11 rfl rfl ?_
    refine x_aload_n C 2 dX8_latest_12 rfl rfl ?_
    refine x_callV C (ct_X8_measureSets _ _ n k0 k1 σ hk0 hk1) mt_X8_measureSets vr_X8_measureSets wd1238 cls_X8 (at_X8 hk0) rfl ⟨rfl, rfl, Nat.le_of_ble_eq_true rfl, Nat.le_of_ble_eq_true rfl⟩ rfl (by decide) dX8_latest_13 (kV (fun s3 => ?_))
    refine x_aload_n C 1 dX8_latest_16 rfl rfl ?_
    refine x_aload_n C 2 dX8_latest_17 rfl rfl ?_
    refine x_callV C (ct_X8_firstWay _ _ n k0 k1 s3 hk0 hk1) mt_X8_firstWay vr_X8_firstWay wd1252 cls_X8 (at_X8 hk0) rfl ⟨rfl, rfl, Nat.le_of_ble_eq_true rfl, Nat.le_of_ble_eq_true rfl⟩ rfl (by decide) dX8_latest_18 (kS (fun v5 s4 => ?_))
    refine x_istore_n (L' := [(3, _), (2, _), (0, _), (1, _)]) C dX8_latest_21 rfl (by decide) rfl ?_
    refine x_iconst C (0) dX8_latest_22 rfl ?_
    refine x_istore (L' := [(4, _), (3, _), (2, _), (0, _), (1, _)]) C dX8_latest_23 (by decide) rfl ?_
    refine x_pick [3, 4, 2, 1, 0] rfl ?_
    refine x_loop (fun t6 : Int × Int × xS => t6.2.2) (fun t6 : Int × Int × xS => [(0, .ref (xqa (xXE X).2.2 k0)), (1, .ref (xqa (xXE X).2.2 k1)), (2, iV t6.1), (3, iV v5), (4, iV t6.2.1)]) (fun rec7 hr8 t6 => ?_) n (v2, 0, s4)
    refine x_iload C 4 dX8_latest_25 rfl ?_
    refine x_iload_n C 3 dX8_latest_27 rfl rfl ?_
    refine x_icmp_ge C 99 rfl rfl dX8_latest_28 rfl (fun c9 => x_op c9 ?_) (fun c9 => x_on c9 ?_)
    · refine x_iload_n C 2 dX8_latest_99 rfl rfl ?_
      exact x_iretQ C (hQ _ _) rfl dX8_latest_100
    · refine x_aload_n C 0 dX8_latest_31 rfl rfl ?_
      refine x_aload_n C 1 dX8_latest_32 rfl rfl ?_
      refine x_callV C (ct_X8_canCarry _ _ n k0 k1 t6.2.2 hk0 hk1) mt_X8_canCarry vr_X8_canCarry wd1259 cls_X8 (at_X8 hk0) rfl ⟨rfl, rfl, Nat.le_of_ble_eq_true rfl, Nat.le_of_ble_eq_true rfl⟩ rfl (by decide) dX8_latest_33 (kI (fun v10 => ?_))
      refine x_join (fun J => ∀ q13 : Int, WO X Qf WW t6.2.2 88 [(0, .ref (xqa (xXE X).2.2 k0)), (1, .ref (xqa (xXE X).2.2 k1)), (2, iV q13), (3, iV v5), (4, iV t6.2.1)] [] (J q13)) ?_ ?_
      · intro q13
        refine x_aload_n C 0 dX8_latest_88 rfl rfl ?_
        refine x_aload_n C 1 dX8_latest_89 rfl rfl ?_
        refine x_callV C (ct_X8_nextWay _ _ n k0 k1 t6.2.2 hk0 hk1) mt_X8_nextWay vr_X8_nextWay wd1264 cls_X8 (at_X8 hk0) rfl ⟨rfl, rfl, Nat.le_of_ble_eq_true rfl, Nat.le_of_ble_eq_true rfl⟩ rfl (by decide) dX8_latest_90 (kV (fun s14 => ?_))
        refine x_inc C 4 (f := _) dX8_latest_93 rfl (by decide) (1) rfl (fun v15 => ?_)
        refine x_reL (L' := [(4, _), (0, _), (1, _), (2, _), (3, _)]) rfl ?_
        refine x_goto C 25 dX8_latest_96 rfl ?_
        refine x_pick [1, 2, 3, 4, 0] rfl ?_
        exact hr8 (q13, v15, s14)
      · intro J11 hJ12
        refine x_if_eq C 88 rfl dX8_latest_36 rfl (fun c16 => x_op c16 ?_) (fun c16 => x_on c16 ?_)
        · refine x_pick [0, 1, 2, 3, 4] rfl ?_
          exact hJ12 t6.1
        · refine x_sipush C (1439) dX8_latest_39 rfl ?_
          refine x_istore (L' := [(5, _), (0, _), (1, _), (2, _), (3, _), (4, _)]) C dX8_latest_42 (by decide) rfl ?_
          refine x_iconst C (0) dX8_latest_44 rfl ?_
          refine x_istore (L' := [(6, _), (5, _), (0, _), (1, _), (2, _), (3, _), (4, _)]) C dX8_latest_45 (by decide) rfl ?_
          refine x_pick [2, 3, 4, 5, 6, 1, 0] rfl ?_
          refine x_loop (fun t17 : Int × Int => t6.2.2) (fun t17 : Int × Int => [(0, .ref (xqa (xXE X).2.2 k0)), (1, .ref (xqa (xXE X).2.2 k1)), (2, iV t6.1), (3, iV v5), (4, iV t6.2.1), (5, iV t17.1), (6, iV t17.2)]) (fun rec18 hr19 t17 => ?_) n (1439, 0)
          refine x_iload C 6 dX8_latest_47 rfl ?_
          refine x_aload_n C 1 dX8_latest_49 rfl rfl ?_
          refine x_get (v := iV (t6.2.2 k1 11)) C 11 cls_X1 (at_X1 hk1) (by decide) wd481 rfl rfl dX8_latest_50 ?_
          refine x_icmp_ge C 81 rfl rfl dX8_latest_53 rfl (fun c20 => x_op c20 ?_) (fun c20 => x_on c20 ?_)
          · refine x_iload_n C 2 dX8_latest_81 rfl rfl ?_
            refine x_iload C 5 dX8_latest_82 rfl ?_
            refine x_mmax C wd1233 wd1104 wd160 wd1105 (Nat.le_of_ble_eq_true rfl) (Nat.le_of_ble_eq_true rfl) dX8_latest_84 ?_
            refine x_letI (fun v21 => ?_)
            refine x_istore_n (L' := [(2, _), (0, _), (1, _), (3, _), (4, _), (5, _), (6, _)]) C dX8_latest_87 rfl (by decide) rfl ?_
            refine x_pick [1, 2, 0, 3, 4] rfl ?_
            exact hJ12 v21
          · refine x_iload C 5 dX8_latest_56 rfl ?_
            refine x_aload_n C 0 dX8_latest_58 rfl rfl ?_
            refine x_get (v := .ref (xqa (xXE X).2.2 (k0 + 7))) C 8 cls_X8 (at_X8 hk0) (by decide) wd634 rfl (xV_r (rt_X8_setSlack hk0 _) rfl) dX8_latest_59 ?_
            refine x_aload_n C 0 dX8_latest_62 rfl rfl ?_
            refine x_get (v := .ref (xqa (xXE X).2.2 (k0 + 8))) C 9 cls_X8 (at_X8 hk0) (by decide) wd635 rfl (xV_r (rt_X8_shopsOfVan hk0 _) rfl) dX8_latest_63 ?_
            refine x_iload C 6 dX8_latest_66 rfl ?_
            refine x_iald C (at_X8_shopsOfVan hk0) rfl dX8_latest_68 (fun _ => ?_)
            refine x_iald C (at_X8_setSlack hk0) rfl dX8_latest_69 (fun _ => ?_)
            refine x_mmin C wd1232 wd425 wd160 wd426 (Nat.le_of_ble_eq_true rfl) (Nat.le_of_ble_eq_true rfl) dX8_latest_70 ?_
            refine x_letI (fun v22 => ?_)
            refine x_istore (L' := [(5, _), (0, _), (1, _), (2, _), (3, _), (4, _), (6, _)]) C dX8_latest_73 (by decide) rfl ?_
            refine x_inc C 6 (f := _) dX8_latest_75 rfl (by decide) (1) rfl (fun v23 => ?_)
            refine x_reL (L' := [(6, _), (5, _), (0, _), (1, _), (2, _), (3, _), (4, _)]) rfl ?_
            refine x_goto C 47 dX8_latest_78 rfl ?_
            refine x_pick [2, 3, 4, 5, 6, 1, 0] rfl ?_
            exact hr19 (v22, v23)
  · refine x_iconst C (-1) dX8_latest_7 rfl ?_
    exact x_iretQ C (hQ _ _) rfl dX8_latest_8
theorem ct_X8_latest (l : Launch) (E : xE) (n : Nat) (k0 : Nat) (k1 : Nat) (σ : xS) (hk0 : isPl k0) (hk1 : isBk k1)  : xMet l E yX8_latest cX8_latest 7 (some .int) { frames := 4, cells := 0, slots := 0, locals := 96 } [.ref (xqa E.2.2 k0), .ref (xqa E.2.2 k1)] WW WW σ (xrS (m_X8_latest n k0 k1 σ)) := by
  refine xMet.of0 (by decide) (Nat.le_of_ble_eq_true rfl) rfl rfl (fun X hE C => ?_)
  subst hE
  exact xMap (fun q => (some (iV q.1), q.2)) (wk_X8_latest C (fun _ _ => rfl) hk0 hk1)
theorem mt_X8_latest : xMth yX8_latest cX8_latest 7 (some .int) 1 := ⟨wd1316, wd163, ⟨by decide, by decide, rfl⟩⟩
theorem vr_X8_latest : xVir yX8_latest := ⟨wd1314, wd1315⟩
def m_X8_missedTotal (k0 : Nat) (σ : xS) : Option Int :=
  (m_J6_bitCount_0f7a4 (σ k0 4)).bind fun v1 => some v1
set_option maxHeartbeats 4000000 in
set_option maxRecDepth 100000 in
theorem wk_X8_missedTotal {X : xX} {Qf : Int → State → Prop} {k0 : Nat} {σ : xS} (C : xCx X cX8_missedTotal "BakeryNight$Plan" (some .int) { frames := 1, cells := 0, slots := 0, locals := 20 } 1) (hQ : ∀ v, Qf v = xQf X WW (some (iV v), σ)) (hk0 : isPl k0) : WO X Qf WW σ 0 [(0, .ref (xqa (xXE X).2.2 k0))] [] (m_X8_missedTotal k0 σ) := by
  unfold m_X8_missedTotal
  refine x_aload_n C 0 dX8_missedTotal_0 rfl rfl ?_
  refine x_get (v := iV (σ k0 4)) C 4 cls_X8 (at_X8 hk0) (by decide) wd630 rfl rfl dX8_missedTotal_1 ?_
  refine x_callS C (ct_J6_bitCount_0f7a4 _ _ (σ k0 4) σ) mt_J6_bitCount_0f7a4 st_J6_bitCount_0f7a4 wd1258 rfl ⟨rfl, rfl, Nat.le_of_ble_eq_true rfl, Nat.le_of_ble_eq_true rfl⟩ rfl (by decide) dX8_missedTotal_4 (kI (fun v1 => ?_))
  exact x_iretQ C (hQ _) rfl dX8_missedTotal_7
theorem ct_X8_missedTotal (l : Launch) (E : xE) (k0 : Nat) (σ : xS) (hk0 : isPl k0)  : xMet l E yX8_missedTotal cX8_missedTotal 1 (some .int) { frames := 1, cells := 0, slots := 0, locals := 20 } [.ref (xqa E.2.2 k0)] WW WW σ (xrI (m_X8_missedTotal k0 σ) σ) := by
  refine xMet.of0 (by decide) (Nat.le_of_ble_eq_true rfl) rfl rfl (fun X hE C => ?_)
  subst hE
  exact xMap (fun v => (some (iV v), σ)) (wk_X8_missedTotal C (fun _ => rfl) hk0)
theorem mt_X8_missedTotal : xMth yX8_missedTotal cX8_missedTotal 1 (some .int) 0 := ⟨wd1271, wd163, ⟨by decide, by decide, rfl⟩⟩
theorem vr_X8_missedTotal : xVir yX8_missedTotal := ⟨wd1269, wd1270⟩
def m_X8_vanFor (n : Nat) (k0 : Nat) (p1 : Int) (σ : xS) : Option Int :=
  loopF (fun rec2 (t1 : Int) => xj (fun (q6 : Unit) => some (-1)) fun J4 => if 3 ≤ (zI t1) then J4 () else if (zI (σ k0 11)) = 0 then J4 () else xck (zI t1) 3 <| if (zI (zand (zshr (σ (k0 + 10) (zI t1).toNat) p1) 1)) = 0 then xlet (t1 + 1) fun v10 => rec2 v10 else some t1) n 0
set_option maxHeartbeats 4000000 in
set_option maxRecDepth 100000 in
theorem wk_X8_vanFor {X : xX} {Qf : Int → State → Prop} {n : Nat} {k0 : Nat} {p1 : Int} {σ : xS} (C : xCx X cX8_vanFor "BakeryNight$Plan" (some .int) { frames := 0, cells := 0, slots := 0, locals := 0 } 3) (hQ : ∀ v, Qf v = xQf X WW (some (iV v), σ)) (hk0 : isPl k0) : WO X Qf WW σ 0 [(0, .ref (xqa (xXE X).2.2 k0)), (1, iV p1)] [] (m_X8_vanFor n k0 p1 σ) := by
  unfold m_X8_vanFor
  refine x_iconst C (0) dX8_vanFor_0 rfl ?_
  refine x_istore_n (L' := [(2, _), (0, _), (1, _)]) C dX8_vanFor_1 rfl (by decide) rfl ?_
  refine x_pick [1, 2, 0] rfl ?_
  refine x_loop (fun t1 : Int => σ) (fun t1 : Int => [(0, .ref (xqa (xXE X).2.2 k0)), (1, iV p1), (2, iV t1)]) (fun rec2 hr3 t1 => ?_) n 0
  refine x_iload_n C 2 dX8_vanFor_2 rfl rfl ?_
  refine x_iconst C (3) dX8_vanFor_3 rfl ?_
  refine x_join (fun J => ∀ q6 : Unit, WO X Qf WW σ 35 [] [] (J q6)) ?_ ?_
  · intro q6
    refine x_iconst C (-1) dX8_vanFor_35 rfl ?_
    exact x_iretQ C (hQ _) rfl dX8_vanFor_36
  · intro J4 hJ5
    refine x_icmp_ge C 35 rfl (zIl _ rfl) dX8_vanFor_4 rfl (fun c7 => x_op c7 ?_) (fun c7 => x_on c7 ?_)
    · refine x_pick [] rfl ?_
      exact hJ5 ()
    · refine x_aload_n C 0 dX8_vanFor_7 rfl rfl ?_
      refine x_get (v := iV (σ k0 11)) C 11 cls_X8 (at_X8 hk0) (by decide) wd637 rfl rfl dX8_vanFor_8 ?_
      refine x_if_eq C 35 rfl dX8_vanFor_11 rfl (fun c8 => x_op c8 ?_) (fun c8 => x_on c8 ?_)
      · refine x_pick [] rfl ?_
        exact hJ5 ()
      · refine x_aload_n C 0 dX8_vanFor_14 rfl rfl ?_
        refine x_get (v := .ref (xqa (xXE X).2.2 (k0 + 10))) C 13 cls_X8 (at_X8 hk0) (by decide) wd641 rfl (xV_r (rt_X8_bestShops hk0 _) rfl) dX8_vanFor_15 ?_
        refine x_iload_n C 2 dX8_vanFor_18 rfl rfl ?_
        refine x_iald C (at_X8_bestShops hk0) rfl dX8_vanFor_19 (fun _ => ?_)
        refine x_iload_n C 1 dX8_vanFor_20 rfl rfl ?_
        refine x_ishr C dX8_vanFor_21 ?_
        refine x_iconst C (1) dX8_vanFor_22 rfl ?_
        refine x_iand C dX8_vanFor_23 ?_
        refine x_if_eq C 29 rfl dX8_vanFor_24 rfl (fun c9 => x_op c9 ?_) (fun c9 => x_on c9 ?_)
        · refine x_inc C 2 (f := _) dX8_vanFor_29 rfl (by decide) (1) rfl (fun v10 => ?_)
          refine x_reL (L' := [(2, _), (0, _), (1, _)]) rfl ?_
          refine x_goto C 2 dX8_vanFor_32 rfl ?_
          refine x_pick [1, 2, 0] rfl ?_
          exact hr3 v10
        · refine x_iload_n C 2 dX8_vanFor_27 rfl rfl ?_
          exact x_iretQ C (hQ _) rfl dX8_vanFor_28
theorem ct_X8_vanFor (l : Launch) (E : xE) (n : Nat) (k0 : Nat) (p1 : Int) (σ : xS) (hk0 : isPl k0)  : xMet l E yX8_vanFor cX8_vanFor 3 (some .int) { frames := 0, cells := 0, slots := 0, locals := 0 } [.ref (xqa E.2.2 k0), iV p1] WW WW σ (xrI (m_X8_vanFor n k0 p1 σ) σ) := by
  refine xMet.of0 (by decide) (Nat.le_of_ble_eq_true rfl) rfl rfl (fun X hE C => ?_)
  subst hE
  exact xMap (fun v => (some (iV v), σ)) (wk_X8_vanFor C (fun _ => rfl) hk0)
theorem mt_X8_vanFor : xMth yX8_vanFor cX8_vanFor 3 (some .int) 1 := ⟨wd1279, wd163, ⟨by decide, by decide, rfl⟩⟩
theorem vr_X8_vanFor : xVir yX8_vanFor := ⟨wd1277, wd1278⟩
def m_X8_departureOf (n : Nat) (k0 : Nat) (p1 : Int) (σ : xS) : Option Int :=
  xj (fun (q3 : Int) => some q3) fun J1 => xj (fun (q6 : Unit) => J1 (-1)) fun J4 => if (zI (σ k0 11)) = 0 then J4 () else xck (zI p1) 3 <| if (zI (σ (k0 + 10) (zI p1).toNat)) = 0 then J4 () else xck (zI p1) 3 <| (m_X8_departureFor n k0 (σ (k0 + 10) (zI p1).toNat) σ).bind fun v9 => J1 v9
set_option maxHeartbeats 4000000 in
set_option maxRecDepth 100000 in
theorem wk_X8_departureOf {X : xX} {Qf : Int → State → Prop} {n : Nat} {k0 : Nat} {p1 : Int} {σ : xS} (C : xCx X cX8_departureOf "BakeryNight$Plan" (some .int) { frames := 2, cells := 0, slots := 0, locals := 44 } 2) (hQ : ∀ v, Qf v = xQf X WW (some (iV v), σ)) (hk0 : isPl k0) : WO X Qf WW σ 0 [(0, .ref (xqa (xXE X).2.2 k0)), (1, iV p1)] [] (m_X8_departureOf n k0 p1 σ) := by
  unfold m_X8_departureOf
  refine x_aload_n C 0 dX8_departureOf_0 rfl rfl ?_
  refine x_get (v := iV (σ k0 11)) C 11 cls_X8 (at_X8 hk0) (by decide) wd637 rfl rfl dX8_departureOf_1 ?_
  refine x_join (fun J => ∀ q3 : Int, WO X Qf WW σ 30 [] [iV q3] (J q3)) ?_ ?_
  · intro q3
    exact x_iretQ C (hQ _) rfl dX8_departureOf_30
  · intro J1 hJ2
    refine x_join (fun J => ∀ q6 : Unit, WO X Qf WW σ 29 [] [] (J q6)) ?_ ?_
    · intro q6
      refine x_iconst C (-1) dX8_departureOf_29 rfl ?_
      refine x_pick [] rfl ?_
      exact hJ2 (-1)
    · intro J4 hJ5
      refine x_if_eq C 29 rfl dX8_departureOf_4 rfl (fun c7 => x_op c7 ?_) (fun c7 => x_on c7 ?_)
      · refine x_pick [] rfl ?_
        exact hJ5 ()
      · refine x_aload_n C 0 dX8_departureOf_7 rfl rfl ?_
        refine x_get (v := .ref (xqa (xXE X).2.2 (k0 + 10))) C 13 cls_X8 (at_X8 hk0) (by decide) wd641 rfl (xV_r (rt_X8_bestShops hk0 _) rfl) dX8_departureOf_8 ?_
        refine x_iload_n C 1 dX8_departureOf_11 rfl rfl ?_
        refine x_iald C (at_X8_bestShops hk0) rfl dX8_departureOf_12 (fun _ => ?_)
        refine x_if_eq C 29 rfl dX8_departureOf_13 rfl (fun c8 => x_op c8 ?_) (fun c8 => x_on c8 ?_)
        · refine x_pick [] rfl ?_
          exact hJ5 ()
        · refine x_aload_n C 0 dX8_departureOf_16 rfl rfl ?_
          refine x_aload_n C 0 dX8_departureOf_17 rfl rfl ?_
          refine x_get (v := .ref (xqa (xXE X).2.2 (k0 + 10))) C 13 cls_X8 (at_X8 hk0) (by decide) wd641 rfl (xV_r (rt_X8_bestShops hk0 _) rfl) dX8_departureOf_18 ?_
          refine x_iload_n C 1 dX8_departureOf_21 rfl rfl ?_
          refine x_iald C (at_X8_bestShops hk0) rfl dX8_departureOf_22 (fun _ => ?_)
          refine x_callV C (ct_X8_departureFor _ _ n k0 (σ (k0 + 10) (zI p1).toNat) σ hk0) mt_X8_departureFor vr_X8_departureFor wd1246 cls_X8 (at_X8 hk0) rfl ⟨rfl, rfl, Nat.le_of_ble_eq_true rfl, Nat.le_of_ble_eq_true rfl⟩ rfl (by decide) dX8_departureOf_23 (kI (fun v9 => ?_))
          refine x_goto C 30 dX8_departureOf_26 rfl ?_
          refine x_pick [] rfl ?_
          exact hJ2 v9
theorem ct_X8_departureOf (l : Launch) (E : xE) (n : Nat) (k0 : Nat) (p1 : Int) (σ : xS) (hk0 : isPl k0)  : xMet l E yX8_departureOf cX8_departureOf 2 (some .int) { frames := 2, cells := 0, slots := 0, locals := 44 } [.ref (xqa E.2.2 k0), iV p1] WW WW σ (xrI (m_X8_departureOf n k0 p1 σ) σ) := by
  refine xMet.of0 (by decide) (Nat.le_of_ble_eq_true rfl) rfl rfl (fun X hE C => ?_)
  subst hE
  exact xMap (fun v => (some (iV v), σ)) (wk_X8_departureOf C (fun _ => rfl) hk0)
theorem mt_X8_departureOf : xMth yX8_departureOf cX8_departureOf 2 (some .int) 1 := ⟨wd1295, wd163, ⟨by decide, by decide, rfl⟩⟩
theorem vr_X8_departureOf : xVir yX8_departureOf := ⟨wd1293, wd1294⟩
def m_X8_staleTotal (n : Nat) (k0 : Nat) (k1 : Nat) (k2 : Nat) (σ : xS) : Option Int :=
  loopF (fun rec2 (t1 : Int × Int) => if (zI (σ k1 13)) ≤ (zI t1.2) then some t1.1 else xck (zI t1.2) 24 <| (m_X1_hasOrder k1 t1.2 σ).bind fun v6 => xj (fun (q10 : Int) => xlet (t1.2 + 1) fun v11 => rec2 (q10, v11)) fun J8 => if (zI v6) = 0 then J8 t1.1 else (m_X8_vanFor n k0 (σ (k1 + 14 + (zI t1.2).toNat) 0) σ).bind fun v13 => if (zI v13) = (-1) then J8 t1.1 else xck (zI (σ (k1 + 14 + (zI t1.2).toNat) 0)) 7 <| xck (zI t1.2) 24 <| xlet ((σ (k0 + 11) (zI (σ (k1 + 14 + (zI t1.2).toNat) 0)).toNat) - (σ (k2 + 20) (zI t1.2).toNat)) fun v15 => xck (zI (σ (k1 + 14 + (zI t1.2).toNat) 1)) 6 <| xlet (if (zI v15) ≤ (zI (σ (k1 + 2 + (zI (σ (k1 + 14 + (zI t1.2).toNat) 1)).toNat) 8)) then 0 else 1) fun v17 => xlet (t1.1 + v17) fun v18 => J8 v18) n (0, 0)
set_option maxHeartbeats 4000000 in
set_option maxRecDepth 100000 in
theorem wk_X8_staleTotal {X : xX} {Qf : Int → State → Prop} {n : Nat} {k0 : Nat} {k1 : Nat} {k2 : Nat} {σ : xS} (C : xCx X cX8_staleTotal "BakeryNight$Plan" (some .int) { frames := 1, cells := 0, slots := 0, locals := 22 } 7) (hQ : ∀ v, Qf v = xQf X WW (some (iV v), σ)) (hk0 : isPl k0) (hk1 : isBk k1) (hk2 : isNt k2) : WO X Qf WW σ 0 [(0, .ref (xqa (xXE X).2.2 k0)), (1, .ref (xqa (xXE X).2.2 k1)), (2, .ref (xqa (xXE X).2.2 k2))] [] (m_X8_staleTotal n k0 k1 k2 σ) := by
  unfold m_X8_staleTotal
  refine x_iconst C (0) dX8_staleTotal_0 rfl ?_
  refine x_istore_n (L' := [(3, _), (0, _), (1, _), (2, _)]) C dX8_staleTotal_1 rfl (by decide) rfl ?_
  refine x_iconst C (0) dX8_staleTotal_2 rfl ?_
  refine x_istore (L' := [(4, _), (3, _), (0, _), (1, _), (2, _)]) C dX8_staleTotal_3 (by decide) rfl ?_
  refine x_pick [2, 3, 4, 1, 0] rfl ?_
  refine x_loop (fun t1 : Int × Int => σ) (fun t1 : Int × Int => [(0, .ref (xqa (xXE X).2.2 k0)), (1, .ref (xqa (xXE X).2.2 k1)), (2, .ref (xqa (xXE X).2.2 k2)), (3, iV t1.1), (4, iV t1.2)]) (fun rec2 hr3 t1 => ?_) n (0, 0)
  refine x_iload C 4 dX8_staleTotal_5 rfl ?_
  refine x_aload_n C 1 dX8_staleTotal_7 rfl rfl ?_
  refine x_get (v := iV (σ k1 13)) C 13 cls_X1 (at_X1 hk1) (by decide) wd489 rfl rfl dX8_staleTotal_8 ?_
  refine x_icmp_ge C 97 rfl rfl dX8_staleTotal_11 rfl (fun c4 => x_op c4 ?_) (fun c4 => x_on c4 ?_)
  · refine x_iload_n C 3 dX8_staleTotal_97 rfl rfl ?_
    exact x_iretQ C (hQ _) rfl dX8_staleTotal_98
  · refine x_aload_n C 1 dX8_staleTotal_14 rfl rfl ?_
    refine x_get (v := .ref (xqa (xXE X).2.2 (k1 + 13))) C 12 cls_X1 (at_X1 hk1) (by decide) wd484 rfl (xV_r (rt_X1_orders hk1 _) rfl) dX8_staleTotal_15 ?_
    refine x_iload C 4 dX8_staleTotal_18 rfl ?_
    refine x_aald C (at_X1_orders hk1) (by decide) rfl (fun h5 => rl_X1_orders hk1 _ h5) dX8_staleTotal_20 (fun h5 => ?_)
    refine x_astore (L' := [(5, _), (0, _), (1, _), (2, _), (3, _), (4, _)]) C dX8_staleTotal_21 (by decide) rfl ?_
    refine x_aload_n C 2 dX8_staleTotal_23 rfl rfl ?_
    refine x_iload C 5 dX8_staleTotal_24 rfl ?_
    refine x_callV C (ct_X1_hasOrder _ _ k1 t1.2 σ hk1) mt_X1_hasOrder vr_X1_hasOrder wd1231 cls_X1 (at_X1 hk1) rfl ⟨rfl, rfl, Nat.le_of_ble_eq_true rfl, Nat.le_of_ble_eq_true rfl⟩ rfl (by decide) dX8_staleTotal_26 (kI (fun v6 => ?_))
    refine x_join (fun J => ∀ q10 : Int, WO X Qf WW σ 91 [(0, .ref (xqa (xXE X).2.2 k0)), (1, .ref (xqa (xXE X).2.2 k1)), (2, .ref (xqa (xXE X).2.2 k2)), (3, iV q10), (4, iV t1.2)] [] (J q10)) ?_ ?_
    · intro q10
      refine x_inc C 4 (f := _) dX8_staleTotal_91 rfl (by decide) (1) rfl (fun v11 => ?_)
      refine x_reL (L' := [(4, _), (0, _), (1, _), (2, _), (3, _)]) rfl ?_
      refine x_goto C 5 dX8_staleTotal_94 rfl ?_
      refine x_pick [1, 2, 3, 4, 0] rfl ?_
      exact hr3 (q10, v11)
    · intro J8 hJ9
      refine x_if_eq C 91 rfl dX8_staleTotal_29 rfl (fun c12 => x_op c12 ?_) (fun c12 => x_on c12 ?_)
      · refine x_pick [1, 2, 3, 4, 5] rfl ?_
        exact hJ9 t1.1
      · refine x_aload_n C 1 dX8_staleTotal_32 rfl rfl ?_
        refine x_aload C 0 dX8_staleTotal_33 rfl ?_
        refine x_get (v := iV (σ (k1 + 14 + (zI t1.2).toNat) 0)) C 0 cls_X5 (el_X1_orders hk1 h5) (by decide) wd342 rfl rfl dX8_staleTotal_35 ?_
        refine x_callV C (ct_X8_vanFor _ _ n k0 (σ (k1 + 14 + (zI t1.2).toNat) 0) σ hk0) mt_X8_vanFor vr_X8_vanFor wd1304 cls_X8 (at_X8 hk0) rfl ⟨rfl, rfl, Nat.le_of_ble_eq_true rfl, Nat.le_of_ble_eq_true rfl⟩ rfl (by decide) dX8_staleTotal_38 (kI (fun v13 => ?_))
        refine x_iconst C (-1) dX8_staleTotal_41 rfl ?_
        refine x_icmp_eq C 91 rfl (zIl _ rfl) dX8_staleTotal_42 rfl (fun c14 => x_op c14 ?_) (fun c14 => x_on c14 ?_)
        · refine x_pick [1, 2, 3, 4, 5] rfl ?_
          exact hJ9 t1.1
        · refine x_aload_n C 1 dX8_staleTotal_45 rfl rfl ?_
          refine x_get (v := .ref (xqa (xXE X).2.2 (k0 + 11))) C 14 cls_X8 (at_X8 hk0) (by decide) wd642 rfl (xV_r (rt_X8_arrival hk0 _) rfl) dX8_staleTotal_46 ?_
          refine x_aload C 0 dX8_staleTotal_49 rfl ?_
          refine x_get (v := iV (σ (k1 + 14 + (zI t1.2).toNat) 0)) C 0 cls_X5 (el_X1_orders hk1 h5) (by decide) wd342 rfl rfl dX8_staleTotal_51 ?_
          refine x_iald C (at_X8_arrival hk0) rfl dX8_staleTotal_54 (fun _ => ?_)
          refine x_aload_n C 3 dX8_staleTotal_55 rfl rfl ?_
          refine x_get (v := .ref (xqa (xXE X).2.2 (k2 + 20))) C 19 cls_X4 (at_X4 hk2) (by decide) wd578 rfl (xV_r (rt_X4_oldest hk2 _) rfl) dX8_staleTotal_56 ?_
          refine x_iload C 5 dX8_staleTotal_59 rfl ?_
          refine x_iald C (at_X4_oldest hk2) rfl dX8_staleTotal_61 (fun _ => ?_)
          refine x_isub C dX8_staleTotal_62 ?_
          refine x_letI (fun v15 => ?_)
          refine x_istore (L' := [(6, _), (5, _), (0, _), (1, _), (2, _), (3, _), (4, _)]) C dX8_staleTotal_63 (by decide) rfl ?_
          refine x_iload_n C 5 dX8_staleTotal_65 rfl rfl ?_
          refine x_iload C 0 dX8_staleTotal_66 rfl ?_
          refine x_aload_n C 3 dX8_staleTotal_68 rfl rfl ?_
          refine x_get (v := .ref (xqa (xXE X).2.2 (k1 + 1))) C 4 cls_X1 (at_X1 hk1) (by decide) wd457 rfl (xV_r (rt_X1_doughs hk1 _) rfl) dX8_staleTotal_69 ?_
          refine x_aload C 1 dX8_staleTotal_72 rfl ?_
          refine x_get (v := iV (σ (k1 + 14 + (zI t1.2).toNat) 1)) C 1 cls_X5 (el_X1_orders hk1 h5) (by decide) wd346 rfl rfl dX8_staleTotal_74 ?_
          refine x_aald C (at_X1_doughs hk1) (by decide) rfl (fun h16 => rl_X1_doughs hk1 _ h16) dX8_staleTotal_77 (fun h16 => ?_)
          refine x_get (v := iV (σ (k1 + 2 + (zI (σ (k1 + 14 + (zI t1.2).toNat) 1)).toNat) 8)) C 8 cls_X2 (el_X1_doughs hk1 h16) (by decide) wd282 rfl rfl dX8_staleTotal_78 ?_
          refine x_tree 89 [iV t1.1] (fun v17 => ?_) (fun hJ19 => ?_)
          · refine x_iadd C dX8_staleTotal_89 ?_
            refine x_letI (fun v18 => ?_)
            refine x_istore_n (L' := [(3, _), (6, _), (5, _), (0, _), (1, _), (2, _), (4, _)]) C dX8_staleTotal_90 rfl (by decide) rfl ?_
            refine x_pick [3, 4, 5, 0, 6] rfl ?_
            exact hJ9 v18
          · refine x_icmp_le C 88 rfl rfl dX8_staleTotal_81 rfl (fun c20 => ?_) (fun c20 => ?_)
            · refine x_iconst C (0) dX8_staleTotal_88 rfl ?_
              exact hJ19 _ (by rw [if_pos c20])
            · refine x_iconst C (1) dX8_staleTotal_84 rfl ?_
              refine x_goto C 89 dX8_staleTotal_85 rfl ?_
              exact hJ19 _ (by rw [if_neg c20])
theorem ct_X8_staleTotal (l : Launch) (E : xE) (n : Nat) (k0 : Nat) (k1 : Nat) (k2 : Nat) (σ : xS) (hk0 : isPl k0) (hk1 : isBk k1) (hk2 : isNt k2)  : xMet l E yX8_staleTotal cX8_staleTotal 7 (some .int) { frames := 1, cells := 0, slots := 0, locals := 22 } [.ref (xqa E.2.2 k0), .ref (xqa E.2.2 k1), .ref (xqa E.2.2 k2)] WW WW σ (xrI (m_X8_staleTotal n k0 k1 k2 σ) σ) := by
  refine xMet.of0 (by decide) (Nat.le_of_ble_eq_true rfl) rfl rfl (fun X hE C => ?_)
  subst hE
  exact xMap (fun v => (some (iV v), σ)) (wk_X8_staleTotal C (fun _ => rfl) hk0 hk1 hk2)
theorem mt_X8_staleTotal : xMth yX8_staleTotal cX8_staleTotal 7 (some .int) 2 := ⟨wd1303, wd163, ⟨by decide, by decide, rfl⟩⟩
theorem vr_X8_staleTotal : xVir yX8_staleTotal := ⟨wd1301, wd1302⟩
def m_X12_append (n : Nat) (p1 : Int) (σ : xS) : Option xS :=
  loopF (fun rec2 (t1 : Int × xS) => xj (fun (q6 : Unit) => some t1.2) fun J4 => if (zI t1.1) < 0 then J4 () else if 1600 ≤ (zI (t1.2 0 1)) then J4 () else xck (zI (t1.2 0 1)) 1600 <| xlet (xput t1.2 1 (zI (t1.2 0 1)).toNat (zb (zi2b (zshr p1 t1.1)))) fun s9 => xlet (xput s9 0 1 ((s9 0 1) + 1)) fun s10 => xlet (t1.1 + (-8)) fun v11 => rec2 (v11, s10)) n (24, σ)
set_option maxHeartbeats 4000000 in
set_option maxRecDepth 100000 in
theorem wk_X12_append {X : xX} {Qf : xS → State → Prop} {n : Nat} {p1 : Int} {σ : xS} (C : xCx X cX12_append "BakeryNight" none { frames := 0, cells := 0, slots := 0, locals := 0 } 3) (hQ : ∀ τ, Qf τ = xQf X WW (none, τ))  : WO X Qf WW σ 0 [(0, .ref (xqa (xXE X).2.2 0)), (1, iV p1)] [] (m_X12_append n p1 σ) := by
  unfold m_X12_append
  refine x_bipush C (24) dX12_append_0 rfl ?_
  refine x_istore_n (L' := [(2, _), (0, _), (1, _)]) C dX12_append_2 rfl (by decide) rfl ?_
  refine x_pick [1, 2, 0] rfl ?_
  refine x_loop (fun t1 : Int × xS => t1.2) (fun t1 : Int × xS => [(0, .ref (xqa (xXE X).2.2 0)), (1, iV p1), (2, iV t1.1)]) (fun rec2 hr3 t1 => ?_) n (24, σ)
  refine x_iload_n C 2 dX12_append_3 rfl rfl ?_
  refine x_join (fun J => ∀ q6 : Unit, WO X Qf WW t1.2 46 [] [] (J q6)) ?_ ?_
  · intro q6
    exact x_vretQ C (hQ _) rfl dX12_append_46
  · intro J4 hJ5
    refine x_if_lt C 46 rfl dX12_append_4 rfl (fun c7 => x_op c7 ?_) (fun c7 => x_on c7 ?_)
    · refine x_pick [] rfl ?_
      exact hJ5 ()
    · refine x_aload_n C 0 dX12_append_7 rfl rfl ?_
      refine x_get (v := iV (t1.2 0 1)) C 1 cls_X12 at_X12 (by decide) wd676 rfl rfl dX12_append_8 ?_
      refine x_sipush C (1600) dX12_append_11 rfl ?_
      refine x_icmp_ge C 46 rfl (zIl _ rfl) dX12_append_14 rfl (fun c8 => x_op c8 ?_) (fun c8 => x_on c8 ?_)
      · refine x_pick [] rfl ?_
        exact hJ5 ()
      · refine x_aload_n C 0 dX12_append_17 rfl rfl ?_
        refine x_get (v := .ref (xqa (xXE X).2.2 1)) C 0 cls_X12 at_X12 (by decide) wd675 rfl (xV_r (rt_X12_buffer  _) rfl) dX12_append_18 ?_
        refine x_aload_n C 0 dX12_append_21 rfl rfl ?_
        refine x_get (v := iV (t1.2 0 1)) C 1 cls_X12 at_X12 (by decide) wd676 rfl rfl dX12_append_22 ?_
        refine x_iload_n C 1 dX12_append_25 rfl rfl ?_
        refine x_iload_n C 2 dX12_append_26 rfl rfl ?_
        refine x_ishr C dX12_append_27 ?_
        refine x_i2b C dX12_append_28 ?_
        refine x_bast C at_X12_buffer rfl dX12_append_29 (fun _ => ?_)
        refine x_letS (fun s9 => ?_)
        refine x_aload_n C 0 dX12_append_30 rfl rfl ?_
        refine x_dup C dX12_append_31 rfl ?_
        refine x_get (v := iV (s9 0 1)) C 1 cls_X12 at_X12 (by decide) wd676 rfl rfl dX12_append_32 ?_
        refine x_iconst C (1) dX12_append_35 rfl ?_
        refine x_iadd C dX12_append_36 ?_
        refine x_put C 1 ((s9 0 1) + 1) cls_X12 at_X12 (by decide) wd676 rfl rfl rfl rfl (xV_pI rfl) dX12_append_37 ?_
        refine x_letS (fun s10 => ?_)
        refine x_inc C 2 (f := _) dX12_append_40 rfl (by decide) (-8) rfl (fun v11 => ?_)
        refine x_reL (L' := [(2, _), (0, _), (1, _)]) rfl ?_
        refine x_goto C 3 dX12_append_43 rfl ?_
        refine x_pick [1, 2, 0] rfl ?_
        exact hr3 (v11, s10)
theorem ct_X12_append (l : Launch) (E : xE) (n : Nat) (p1 : Int) (σ : xS)   : xMet l E yX12_append cX12_append 3 none { frames := 0, cells := 0, slots := 0, locals := 0 } [.ref (xqa E.2.2 0), iV p1] WW WW σ (xrV (m_X12_append n p1 σ)) := by
  refine xMet.of0 (by decide) (Nat.le_of_ble_eq_true rfl) rfl rfl (fun X hE C => ?_)
  subst hE
  exact xMap (fun q => (none, q)) (wk_X12_append C (fun _ => rfl) )
theorem mt_X12_append : xMth yX12_append cX12_append 3 none 1 := ⟨wd719, wd151, ⟨by decide, by decide, rfl⟩⟩
theorem vr_X12_append : xVir yX12_append := ⟨wd718, wd3⟩
def m_X12_feed (n : Nat) (p1 : Int) (p2 : Int) (p3 : Int) (p4 : Int) (p5 : Int) (σ : xS) : Option (Int × xS) :=
  if (zI ((σ 0 1) + 20)) ≤ 1600 then (m_X12_append n p1 σ).bind fun s2 => (m_X12_append n p2 s2).bind fun s3 => (m_X12_append n p3 s3).bind fun s4 => (m_X12_append n p4 s4).bind fun s5 => (m_X12_append n p5 s5).bind fun s6 => some (s6 0 1, s6) else some ((-1), σ)
set_option maxHeartbeats 4000000 in
set_option maxRecDepth 100000 in
theorem wk_X12_feed {X : xX} {Qf : (Int × xS) → State → Prop} {n : Nat} {p1 : Int} {p2 : Int} {p3 : Int} {p4 : Int} {p5 : Int} {σ : xS} (C : xCx X cX12_feed "BakeryNight" (some .int) { frames := 1, cells := 0, slots := 0, locals := 22 } 6) (hQ : ∀ v τ, Qf (v, τ) = xQf X WW (some (iV v), τ))  : WO X Qf WW σ 0 [(0, .ref (xqa (xXE X).2.2 0)), (1, iV p1), (2, iV p2), (3, iV p3), (4, iV p4), (5, iV p5)] [] (m_X12_feed n p1 p2 p3 p4 p5 σ) := by
  unfold m_X12_feed
  refine x_aload_n C 0 dX12_feed_0 rfl rfl ?_
  refine x_get (v := iV (σ 0 1)) C 1 cls_X12 at_X12 (by decide) wd676 rfl rfl dX12_feed_1 ?_
  refine x_bipush C (20) dX12_feed_4 rfl ?_
  refine x_iadd C dX12_feed_6 ?_
  refine x_sipush C (1600) dX12_feed_7 rfl ?_
  refine x_icmp_le C 15 rfl (zIl _ rfl) dX12_feed_10 rfl (fun c1 => x_op c1 ?_) (fun c1 => x_on c1 ?_)
  · refine x_aload_n C 0 dX12_feed_15 rfl rfl ?_
    refine x_iload_n C 1 dX12_feed_16 rfl rfl ?_
    refine x_callV C (ct_X12_append _ _ n p1 σ) mt_X12_append vr_X12_append wd716 cls_X12 at_X12 rfl ⟨rfl, rfl, Nat.le_of_ble_eq_true rfl, Nat.le_of_ble_eq_true rfl⟩ rfl (by decide) dX12_feed_17 (kV (fun s2 => ?_))
    refine x_aload_n C 0 dX12_feed_20 rfl rfl ?_
    refine x_iload_n C 2 dX12_feed_21 rfl rfl ?_
    refine x_callV C (ct_X12_append _ _ n p2 s2) mt_X12_append vr_X12_append wd716 cls_X12 at_X12 rfl ⟨rfl, rfl, Nat.le_of_ble_eq_true rfl, Nat.le_of_ble_eq_true rfl⟩ rfl (by decide) dX12_feed_22 (kV (fun s3 => ?_))
    refine x_aload_n C 0 dX12_feed_25 rfl rfl ?_
    refine x_iload_n C 3 dX12_feed_26 rfl rfl ?_
    refine x_callV C (ct_X12_append _ _ n p3 s3) mt_X12_append vr_X12_append wd716 cls_X12 at_X12 rfl ⟨rfl, rfl, Nat.le_of_ble_eq_true rfl, Nat.le_of_ble_eq_true rfl⟩ rfl (by decide) dX12_feed_27 (kV (fun s4 => ?_))
    refine x_aload_n C 0 dX12_feed_30 rfl rfl ?_
    refine x_iload C 4 dX12_feed_31 rfl ?_
    refine x_callV C (ct_X12_append _ _ n p4 s4) mt_X12_append vr_X12_append wd716 cls_X12 at_X12 rfl ⟨rfl, rfl, Nat.le_of_ble_eq_true rfl, Nat.le_of_ble_eq_true rfl⟩ rfl (by decide) dX12_feed_33 (kV (fun s5 => ?_))
    refine x_aload_n C 0 dX12_feed_36 rfl rfl ?_
    refine x_iload C 5 dX12_feed_37 rfl ?_
    refine x_callV C (ct_X12_append _ _ n p5 s5) mt_X12_append vr_X12_append wd716 cls_X12 at_X12 rfl ⟨rfl, rfl, Nat.le_of_ble_eq_true rfl, Nat.le_of_ble_eq_true rfl⟩ rfl (by decide) dX12_feed_39 (kV (fun s6 => ?_))
    refine x_aload_n C 0 dX12_feed_42 rfl rfl ?_
    refine x_get (v := iV (s6 0 1)) C 1 cls_X12 at_X12 (by decide) wd676 rfl rfl dX12_feed_43 ?_
    exact x_iretQ C (hQ _ _) rfl dX12_feed_46
  · refine x_iconst C (-1) dX12_feed_13 rfl ?_
    exact x_iretQ C (hQ _ _) rfl dX12_feed_14
theorem ct_X12_feed (l : Launch) (E : xE) (n : Nat) (p1 : Int) (p2 : Int) (p3 : Int) (p4 : Int) (p5 : Int) (σ : xS)   : xMet l E yX12_feed cX12_feed 6 (some .int) { frames := 1, cells := 0, slots := 0, locals := 22 } [.ref (xqa E.2.2 0), iV p1, iV p2, iV p3, iV p4, iV p5] WW WW σ (xrS (m_X12_feed n p1 p2 p3 p4 p5 σ)) := by
  refine xMet.of0 (by decide) (Nat.le_of_ble_eq_true rfl) rfl rfl (fun X hE C => ?_)
  subst hE
  exact xMap (fun q => (some (iV q.1), q.2)) (wk_X12_feed C (fun _ _ => rfl) )
theorem mt_X12_feed : xMth yX12_feed cX12_feed 6 (some .int) 5 := ⟨wd715, wd151, ⟨by decide, by decide, rfl⟩⟩
theorem vr_X12_feed : xVir yX12_feed := ⟨wd713, wd714⟩
def m_X12_truncate (p1 : Int) (σ : xS) : Option (Int × xS) :=
  xj (fun (q3 : Unit) => some (0, σ)) fun J1 => if (zI p1) < 0 then J1 () else if (zI p1) ≤ (zI (σ 0 1)) then xlet (xput σ 0 1 p1) fun s6 => some (1, s6) else J1 ()
set_option maxHeartbeats 4000000 in
set_option maxRecDepth 100000 in
theorem wk_X12_truncate {X : xX} {Qf : (Int × xS) → State → Prop} {p1 : Int} {σ : xS} (C : xCx X cX12_truncate "BakeryNight" (some .boolean) { frames := 0, cells := 0, slots := 0, locals := 0 } 2) (hQ : ∀ v τ, Qf (v, τ) = xQf X WW (some (iV v), τ))  : WO X Qf WW σ 0 [(0, .ref (xqa (xXE X).2.2 0)), (1, iV p1)] [] (m_X12_truncate p1 σ) := by
  unfold m_X12_truncate
  refine x_iload_n C 1 dX12_truncate_0 rfl rfl ?_
  refine x_join (fun J => ∀ q3 : Unit, WO X Qf WW σ 12 [] [] (J q3)) ?_ ?_
  · intro q3
    refine x_iconst C (0) dX12_truncate_12 rfl ?_
    exact x_zretQ C (hQ _ _) rfl (Or.inl rfl) dX12_truncate_13
  · intro J1 hJ2
    refine x_if_lt C 12 rfl dX12_truncate_1 rfl (fun c4 => x_op c4 ?_) (fun c4 => x_on c4 ?_)
    · refine x_pick [] rfl ?_
      exact hJ2 ()
    · refine x_iload_n C 1 dX12_truncate_4 rfl rfl ?_
      refine x_aload_n C 0 dX12_truncate_5 rfl rfl ?_
      refine x_get (v := iV (σ 0 1)) C 1 cls_X12 at_X12 (by decide) wd676 rfl rfl dX12_truncate_6 ?_
      refine x_icmp_le C 14 rfl rfl dX12_truncate_9 rfl (fun c5 => x_op c5 ?_) (fun c5 => x_on c5 ?_)
      · refine x_aload_n C 0 dX12_truncate_14 rfl rfl ?_
        refine x_iload_n C 1 dX12_truncate_15 rfl rfl ?_
        refine x_put C 1 p1 cls_X12 at_X12 (by decide) wd676 rfl rfl rfl rfl (xV_pI rfl) dX12_truncate_16 ?_
        refine x_letS (fun s6 => ?_)
        refine x_iconst C (1) dX12_truncate_19 rfl ?_
        exact x_zretQ C (hQ _ _) rfl (Or.inr rfl) dX12_truncate_20
      · refine x_pick [] rfl ?_
        exact hJ2 ()
theorem ct_X12_truncate (l : Launch) (E : xE) (p1 : Int) (σ : xS)   : xMet l E yX12_truncate cX12_truncate 2 (some .boolean) { frames := 0, cells := 0, slots := 0, locals := 0 } [.ref (xqa E.2.2 0), iV p1] WW WW σ (xrS (m_X12_truncate p1 σ)) := by
  refine xMet.of0 (by decide) (Nat.le_of_ble_eq_true rfl) rfl rfl (fun X hE C => ?_)
  subst hE
  exact xMap (fun q => (some (iV q.1), q.2)) (wk_X12_truncate C (fun _ _ => rfl) )
theorem mt_X12_truncate : xMth yX12_truncate cX12_truncate 2 (some .boolean) 1 := ⟨wd723, wd151, ⟨by decide, by decide, rfl⟩⟩
theorem vr_X12_truncate : xVir yX12_truncate := ⟨wd721, wd722⟩
def m_X12_dropNight (σ : xS) : Option xS :=
  xlet (xput σ 0 8 0) fun s1 => some s1
set_option maxHeartbeats 4000000 in
set_option maxRecDepth 100000 in
theorem wk_X12_dropNight {X : xX} {Qf : xS → State → Prop} {σ : xS} (C : xCx X cX12_dropNight "BakeryNight" none { frames := 0, cells := 0, slots := 0, locals := 0 } 1) (hQ : ∀ τ, Qf τ = xQf X WW (none, τ))  : WO X Qf WW σ 0 [(0, .ref (xqa (xXE X).2.2 0))] [] (m_X12_dropNight σ) := by
  unfold m_X12_dropNight
  refine x_aload_n C 0 dX12_dropNight_0 rfl rfl ?_
  refine x_iconst C (0) dX12_dropNight_1 rfl ?_
  refine x_put C 8 0 cls_X12 at_X12 (by decide) wd683 rfl rfl (xnb (Or.inl rfl)) (xfb (Or.inl rfl)) (xV_pI rfl) dX12_dropNight_2 ?_
  refine x_letS (fun s1 => ?_)
  exact x_vretQ C (hQ _) rfl dX12_dropNight_5
theorem ct_X12_dropNight (l : Launch) (E : xE) (σ : xS)   : xMet l E yX12_dropNight cX12_dropNight 1 none { frames := 0, cells := 0, slots := 0, locals := 0 } [.ref (xqa E.2.2 0)] WW WW σ (xrV (m_X12_dropNight σ)) := by
  refine xMet.of0 (by decide) (Nat.le_of_ble_eq_true rfl) rfl rfl (fun X hE C => ?_)
  subst hE
  exact xMap (fun q => (none, q)) (wk_X12_dropNight C (fun _ => rfl) )
theorem mt_X12_dropNight : xMth yX12_dropNight cX12_dropNight 1 none 0 := ⟨wd939, wd151, ⟨by decide, by decide, rfl⟩⟩
theorem vr_X12_dropNight : xVir yX12_dropNight := ⟨wd938, wd22⟩
def m_X12_errorCode (σ : xS) : Int := σ 2 7
set_option maxHeartbeats 4000000 in
set_option maxRecDepth 100000 in
theorem wk_X12_errorCode {X : xX} {Qf : Int → State → Prop} {σ : xS} (C : xCx X cX12_errorCode "BakeryNight" (some .int) { frames := 0, cells := 0, slots := 0, locals := 0 } 1) (hQ : ∀ v, Qf v = xQf X WW (some (iV v), σ))  : WO X Qf WW σ 0 [(0, .ref (xqa (xXE X).2.2 0))] [] (some (m_X12_errorCode σ)) := by
  refine x_aload_n C 0 dX12_errorCode_0 rfl rfl ?_
  refine x_get (v := .ref (xqa (xXE X).2.2 2)) C 2 cls_X12 at_X12 (by decide) wd677 rfl (xV_r (rt_X12_parser  _) rfl) dX12_errorCode_1 ?_
  refine x_get (v := iV (σ 2 7)) C 7 cls_X7 at_X7 (by decide) wd226 rfl rfl dX12_errorCode_4 ?_
  exact x_leafR rfl (x_iretQ C (hQ _) rfl dX12_errorCode_7)
theorem ct_X12_errorCode (l : Launch) (E : xE) (σ : xS)   : xMet l E yX12_errorCode cX12_errorCode 1 (some .int) { frames := 0, cells := 0, slots := 0, locals := 0 } [.ref (xqa E.2.2 0)] WW WW σ (some (some (iV (m_X12_errorCode σ)), σ)) := by
  refine xMet.of0 (by decide) (Nat.le_of_ble_eq_true rfl) rfl rfl (fun X hE C => ?_)
  subst hE
  exact xMap (fun v => (some (iV v), σ)) (wk_X12_errorCode C (fun _ => rfl) )
theorem mt_X12_errorCode : xMth yX12_errorCode cX12_errorCode 1 (some .int) 0 := ⟨wd943, wd151, ⟨by decide, by decide, rfl⟩⟩
theorem vr_X12_errorCode : xVir yX12_errorCode := ⟨wd941, wd942⟩
def m_X12_errorOffset (σ : xS) : Int := σ 2 8
set_option maxHeartbeats 4000000 in
set_option maxRecDepth 100000 in
theorem wk_X12_errorOffset {X : xX} {Qf : Int → State → Prop} {σ : xS} (C : xCx X cX12_errorOffset "BakeryNight" (some .int) { frames := 0, cells := 0, slots := 0, locals := 0 } 1) (hQ : ∀ v, Qf v = xQf X WW (some (iV v), σ))  : WO X Qf WW σ 0 [(0, .ref (xqa (xXE X).2.2 0))] [] (some (m_X12_errorOffset σ)) := by
  refine x_aload_n C 0 dX12_errorOffset_0 rfl rfl ?_
  refine x_get (v := .ref (xqa (xXE X).2.2 2)) C 2 cls_X12 at_X12 (by decide) wd677 rfl (xV_r (rt_X12_parser  _) rfl) dX12_errorOffset_1 ?_
  refine x_get (v := iV (σ 2 8)) C 8 cls_X7 at_X7 (by decide) wd228 rfl rfl dX12_errorOffset_4 ?_
  exact x_leafR rfl (x_iretQ C (hQ _) rfl dX12_errorOffset_7)
theorem ct_X12_errorOffset (l : Launch) (E : xE) (σ : xS)   : xMet l E yX12_errorOffset cX12_errorOffset 1 (some .int) { frames := 0, cells := 0, slots := 0, locals := 0 } [.ref (xqa E.2.2 0)] WW WW σ (some (some (iV (m_X12_errorOffset σ)), σ)) := by
  refine xMet.of0 (by decide) (Nat.le_of_ble_eq_true rfl) rfl rfl (fun X hE C => ?_)
  subst hE
  exact xMap (fun v => (some (iV v), σ)) (wk_X12_errorOffset C (fun _ => rfl) )
theorem mt_X12_errorOffset : xMth yX12_errorOffset cX12_errorOffset 1 (some .int) 0 := ⟨wd947, wd151, ⟨by decide, by decide, rfl⟩⟩
theorem vr_X12_errorOffset : xVir yX12_errorOffset := ⟨wd945, wd946⟩
def m_X12_orderCount (σ : xS) : Int := σ (bkA (σ 0 3)) 13
set_option maxHeartbeats 4000000 in
set_option maxRecDepth 100000 in
theorem wk_X12_orderCount {X : xX} {Qf : Int → State → Prop} {σ : xS} (C : xCx X cX12_orderCount "BakeryNight" (some .int) { frames := 0, cells := 0, slots := 0, locals := 0 } 1) (hQ : ∀ v, Qf v = xQf X WW (some (iV v), σ))  : WO X Qf WW σ 0 [(0, .ref (xqa (xXE X).2.2 0))] [] (some (m_X12_orderCount σ)) := by
  refine x_aload_n C 0 dX12_orderCount_0 rfl rfl ?_
  refine x_get (v := .ref (xqa (xXE X).2.2 (bkA (σ 0 3)))) C 3 cls_X12 at_X12 (by decide) wd678 rfl rfl dX12_orderCount_1 ?_
  refine x_get (v := iV (σ (bkA (σ 0 3)) 13)) C 13 cls_X1 (at_X1 (bk_A (σ 0 3))) (by decide) wd492 rfl rfl dX12_orderCount_4 ?_
  exact x_leafR rfl (x_iretQ C (hQ _) rfl dX12_orderCount_7)
theorem ct_X12_orderCount (l : Launch) (E : xE) (σ : xS)   : xMet l E yX12_orderCount cX12_orderCount 1 (some .int) { frames := 0, cells := 0, slots := 0, locals := 0 } [.ref (xqa E.2.2 0)] WW WW σ (some (some (iV (m_X12_orderCount σ)), σ)) := by
  refine xMet.of0 (by decide) (Nat.le_of_ble_eq_true rfl) rfl rfl (fun X hE C => ?_)
  subst hE
  exact xMap (fun v => (some (iV v), σ)) (wk_X12_orderCount C (fun _ => rfl) )
theorem mt_X12_orderCount : xMth yX12_orderCount cX12_orderCount 1 (some .int) 0 := ⟨wd951, wd151, ⟨by decide, by decide, rfl⟩⟩
theorem vr_X12_orderCount : xVir yX12_orderCount := ⟨wd949, wd950⟩
def m_X12_orderedLoaves (n : Nat) (p1 : Int) (σ : xS) : Option Int :=
  xj (fun (q4 : Int) => some q4) fun J2 => if (m_X1_hasDough (bkA (σ 0 3)) p1 σ) = 0 then J2 (-1) else (m_X1_loavesOf n (bkA (σ 0 3)) p1 σ).bind fun v6 => J2 v6
set_option maxHeartbeats 4000000 in
set_option maxRecDepth 100000 in
theorem wk_X12_orderedLoaves {X : xX} {Qf : Int → State → Prop} {n : Nat} {p1 : Int} {σ : xS} (C : xCx X cX12_orderedLoaves "BakeryNight" (some .int) { frames := 2, cells := 0, slots := 0, locals := 44 } 2) (hQ : ∀ v, Qf v = xQf X WW (some (iV v), σ))  : WO X Qf WW σ 0 [(0, .ref (xqa (xXE X).2.2 0)), (1, iV p1)] [] (m_X12_orderedLoaves n p1 σ) := by
  unfold m_X12_orderedLoaves
  refine x_aload_n C 0 dX12_orderedLoaves_0 rfl rfl ?_
  refine x_get (v := .ref (xqa (xXE X).2.2 (bkA (σ 0 3)))) C 3 cls_X12 at_X12 (by decide) wd678 rfl rfl dX12_orderedLoaves_1 ?_
  refine x_iload_n C 1 dX12_orderedLoaves_4 rfl rfl ?_
  refine x_callV C (ct_X1_hasDough _ _ (bkA (σ 0 3)) p1 σ (bk_A (σ 0 3))) mt_X1_hasDough vr_X1_hasDough wd956 cls_X1 (at_X1 (bk_A (σ 0 3))) rfl ⟨rfl, rfl, Nat.le_of_ble_eq_true rfl, Nat.le_of_ble_eq_true rfl⟩ rfl (by decide) dX12_orderedLoaves_5 (kP ?_)
  refine x_join (fun J => ∀ q4 : Int, WO X Qf WW σ 23 [] [iV q4] (J q4)) ?_ ?_
  · intro q4
    exact x_iretQ C (hQ _) rfl dX12_orderedLoaves_23
  · intro J2 hJ3
    refine x_if_eq C 22 (zI_bo (bo_X1_hasDough _ _ _)) dX12_orderedLoaves_8 rfl (fun c5 => x_op c5 ?_) (fun c5 => x_on c5 ?_)
    · refine x_iconst C (-1) dX12_orderedLoaves_22 rfl ?_
      refine x_pick [] rfl ?_
      exact hJ3 (-1)
    · refine x_aload_n C 0 dX12_orderedLoaves_11 rfl rfl ?_
      refine x_get (v := .ref (xqa (xXE X).2.2 (bkA (σ 0 3)))) C 3 cls_X12 at_X12 (by decide) wd678 rfl rfl dX12_orderedLoaves_12 ?_
      refine x_iload_n C 1 dX12_orderedLoaves_15 rfl rfl ?_
      refine x_callV C (ct_X1_loavesOf _ _ n (bkA (σ 0 3)) p1 σ (bk_A (σ 0 3))) mt_X1_loavesOf vr_X1_loavesOf wd960 cls_X1 (at_X1 (bk_A (σ 0 3))) rfl ⟨rfl, rfl, Nat.le_of_ble_eq_true rfl, Nat.le_of_ble_eq_true rfl⟩ rfl (by decide) dX12_orderedLoaves_16 (kI (fun v6 => ?_))
      refine x_goto C 23 dX12_orderedLoaves_19 rfl ?_
      refine x_pick [] rfl ?_
      exact hJ3 v6
theorem ct_X12_orderedLoaves (l : Launch) (E : xE) (n : Nat) (p1 : Int) (σ : xS)   : xMet l E yX12_orderedLoaves cX12_orderedLoaves 2 (some .int) { frames := 2, cells := 0, slots := 0, locals := 44 } [.ref (xqa E.2.2 0), iV p1] WW WW σ (xrI (m_X12_orderedLoaves n p1 σ) σ) := by
  refine xMet.of0 (by decide) (Nat.le_of_ble_eq_true rfl) rfl rfl (fun X hE C => ?_)
  subst hE
  exact xMap (fun v => (some (iV v), σ)) (wk_X12_orderedLoaves C (fun _ => rfl) )
theorem mt_X12_orderedLoaves : xMth yX12_orderedLoaves cX12_orderedLoaves 2 (some .int) 1 := ⟨wd955, wd151, ⟨by decide, by decide, rfl⟩⟩
theorem vr_X12_orderedLoaves : xVir yX12_orderedLoaves := ⟨wd953, wd954⟩
def m_X12_batchCount (n : Nat) (σ : xS) : Option Int :=
  (m_X1_batchesNeeded n (bkA (σ 0 3)) σ).bind fun v1 => xlet (if (zI v1) ≤ 60 then v1 else (-3)) fun v2 => some v2
set_option maxHeartbeats 4000000 in
set_option maxRecDepth 100000 in
theorem wk_X12_batchCount {X : xX} {Qf : Int → State → Prop} {n : Nat} {σ : xS} (C : xCx X cX12_batchCount "BakeryNight" (some .int) { frames := 4, cells := 0, slots := 0, locals := 87 } 2) (hQ : ∀ v, Qf v = xQf X WW (some (iV v), σ))  : WO X Qf WW σ 0 [(0, .ref (xqa (xXE X).2.2 0))] [] (m_X12_batchCount n σ) := by
  unfold m_X12_batchCount
  refine x_aload_n C 0 dX12_batchCount_0 rfl rfl ?_
  refine x_get (v := .ref (xqa (xXE X).2.2 (bkA (σ 0 3)))) C 3 cls_X12 at_X12 (by decide) wd678 rfl rfl dX12_batchCount_1 ?_
  refine x_callV C (ct_X1_batchesNeeded _ _ n (bkA (σ 0 3)) σ (bk_A (σ 0 3))) mt_X1_batchesNeeded vr_X1_batchesNeeded wd972 cls_X1 (at_X1 (bk_A (σ 0 3))) rfl ⟨rfl, rfl, Nat.le_of_ble_eq_true rfl, Nat.le_of_ble_eq_true rfl⟩ rfl (by decide) dX12_batchCount_4 (kI (fun v1 => ?_))
  refine x_istore_n (L' := [(1, _), (0, _)]) C dX12_batchCount_7 rfl (by decide) rfl ?_
  refine x_iload_n C 0 dX12_batchCount_8 rfl rfl ?_
  refine x_bipush C (60) dX12_batchCount_9 rfl ?_
  refine x_tree 20 [] (fun v2 => ?_) (fun hJ3 => ?_)
  · exact x_iretQ C (hQ _) rfl dX12_batchCount_20
  · refine x_icmp_le C 19 rfl (zIl _ rfl) dX12_batchCount_11 rfl (fun c4 => ?_) (fun c4 => ?_)
    · refine x_iload_n C 0 dX12_batchCount_19 rfl rfl ?_
      exact hJ3 _ (by rw [if_pos c4])
    · refine x_bipush C (-3) dX12_batchCount_14 rfl ?_
      refine x_goto C 20 dX12_batchCount_16 rfl ?_
      exact hJ3 _ (by rw [if_neg c4])
theorem ct_X12_batchCount (l : Launch) (E : xE) (n : Nat) (σ : xS)   : xMet l E yX12_batchCount cX12_batchCount 2 (some .int) { frames := 4, cells := 0, slots := 0, locals := 87 } [.ref (xqa E.2.2 0)] WW WW σ (xrI (m_X12_batchCount n σ) σ) := by
  refine xMet.of0 (by decide) (Nat.le_of_ble_eq_true rfl) rfl rfl (fun X hE C => ?_)
  subst hE
  exact xMap (fun v => (some (iV v), σ)) (wk_X12_batchCount C (fun _ => rfl) )
theorem mt_X12_batchCount : xMth yX12_batchCount cX12_batchCount 2 (some .int) 0 := ⟨wd971, wd151, ⟨by decide, by decide, rfl⟩⟩
theorem vr_X12_batchCount : xVir yX12_batchCount := ⟨wd969, wd970⟩
def m_X12_risingMinutes (p1 : Int) (p2 : Int) (σ : xS) : Option Int :=
  if (m_X1_hasDough (bkA (σ 0 3)) p1 σ) = 0 then some (-1) else xj (fun (q5 : Int) => (m_X1_inThisRoom (bkA (σ 0 3)) q5 σ).bind fun v6 => some v6) fun J3 => if (zI p2) = 0 then xck (zI p1) 6 <| J3 (σ ((bkA (σ 0 3)) + 2 + (zI p1).toNat) 1) else xck (zI p1) 6 <| J3 (σ ((bkA (σ 0 3)) + 2 + (zI p1).toNat) 3)
set_option maxHeartbeats 4000000 in
set_option maxRecDepth 100000 in
theorem wk_X12_risingMinutes {X : xX} {Qf : Int → State → Prop} {p1 : Int} {p2 : Int} {σ : xS} (C : xCx X cX12_risingMinutes "BakeryNight" (some .int) { frames := 2, cells := 0, slots := 0, locals := 42 } 3) (hQ : ∀ v, Qf v = xQf X WW (some (iV v), σ))  : WO X Qf WW σ 0 [(0, .ref (xqa (xXE X).2.2 0)), (1, iV p1), (2, iV p2)] [] (m_X12_risingMinutes p1 p2 σ) := by
  unfold m_X12_risingMinutes
  refine x_aload_n C 0 dX12_risingMinutes_0 rfl rfl ?_
  refine x_get (v := .ref (xqa (xXE X).2.2 (bkA (σ 0 3)))) C 3 cls_X12 at_X12 (by decide) wd678 rfl rfl dX12_risingMinutes_1 ?_
  refine x_iload_n C 1 dX12_risingMinutes_4 rfl rfl ?_
  refine x_callV C (ct_X1_hasDough _ _ (bkA (σ 0 3)) p1 σ (bk_A (σ 0 3))) mt_X1_hasDough vr_X1_hasDough wd956 cls_X1 (at_X1 (bk_A (σ 0 3))) rfl ⟨rfl, rfl, Nat.le_of_ble_eq_true rfl, Nat.le_of_ble_eq_true rfl⟩ rfl (by decide) dX12_risingMinutes_5 (kP ?_)
  refine x_if_ne C 13 (zI_bo (bo_X1_hasDough _ _ _)) dX12_risingMinutes_8 rfl (fun c1 => x_on c1 ?_) (fun c1 => x_op c1 ?_)
  · refine x_aload_n C 0 dX12_risingMinutes_13 rfl rfl ?_
    refine x_get (v := .ref (xqa (xXE X).2.2 (bkA (σ 0 3)))) C 3 cls_X12 at_X12 (by decide) wd678 rfl rfl dX12_risingMinutes_14 ?_
    refine x_iload_n C 2 dX12_risingMinutes_17 rfl rfl ?_
    refine x_join (fun J => ∀ q5 : Int, WO X Qf WW σ 48 [] [iV q5, .ref (xqa (xXE X).2.2 (bkA (σ 0 3)))] (J q5)) ?_ ?_
    · intro q5
      refine x_callV C (ct_X1_inThisRoom _ _ (bkA (σ 0 3)) q5 σ (bk_A (σ 0 3))) mt_X1_inThisRoom vr_X1_inThisRoom wd988 cls_X1 (at_X1 (bk_A (σ 0 3))) rfl ⟨rfl, rfl, Nat.le_of_ble_eq_true rfl, Nat.le_of_ble_eq_true rfl⟩ rfl (by decide) dX12_risingMinutes_48 (kI (fun v6 => ?_))
      exact x_iretQ C (hQ _) rfl dX12_risingMinutes_51
    · intro J3 hJ4
      refine x_if_eq C 36 rfl dX12_risingMinutes_18 rfl (fun c7 => x_op c7 ?_) (fun c7 => x_on c7 ?_)
      · refine x_aload_n C 0 dX12_risingMinutes_36 rfl rfl ?_
        refine x_get (v := .ref (xqa (xXE X).2.2 (bkA (σ 0 3)))) C 3 cls_X12 at_X12 (by decide) wd678 rfl rfl dX12_risingMinutes_37 ?_
        refine x_get (v := .ref (xqa (xXE X).2.2 ((bkA (σ 0 3)) + 1))) C 4 cls_X1 (at_X1 (bk_A (σ 0 3))) (by decide) wd456 rfl (xV_r (rt_X1_doughs (bk_A (σ 0 3)) _) rfl) dX12_risingMinutes_40 ?_
        refine x_iload_n C 1 dX12_risingMinutes_43 rfl rfl ?_
        refine x_aald C (at_X1_doughs (bk_A (σ 0 3))) (by decide) rfl (fun h8 => rl_X1_doughs (bk_A (σ 0 3)) _ h8) dX12_risingMinutes_44 (fun h8 => ?_)
        refine x_get (v := iV (σ ((bkA (σ 0 3)) + 2 + (zI p1).toNat) 1)) C 1 cls_X2 (el_X1_doughs (bk_A (σ 0 3)) h8) (by decide) wd265 rfl rfl dX12_risingMinutes_45 ?_
        refine x_pick [] rfl ?_
        exact hJ4 (σ ((bkA (σ 0 3)) + 2 + (zI p1).toNat) 1)
      · refine x_aload_n C 0 dX12_risingMinutes_21 rfl rfl ?_
        refine x_get (v := .ref (xqa (xXE X).2.2 (bkA (σ 0 3)))) C 3 cls_X12 at_X12 (by decide) wd678 rfl rfl dX12_risingMinutes_22 ?_
        refine x_get (v := .ref (xqa (xXE X).2.2 ((bkA (σ 0 3)) + 1))) C 4 cls_X1 (at_X1 (bk_A (σ 0 3))) (by decide) wd456 rfl (xV_r (rt_X1_doughs (bk_A (σ 0 3)) _) rfl) dX12_risingMinutes_25 ?_
        refine x_iload_n C 1 dX12_risingMinutes_28 rfl rfl ?_
        refine x_aald C (at_X1_doughs (bk_A (σ 0 3))) (by decide) rfl (fun h9 => rl_X1_doughs (bk_A (σ 0 3)) _ h9) dX12_risingMinutes_29 (fun h9 => ?_)
        refine x_get (v := iV (σ ((bkA (σ 0 3)) + 2 + (zI p1).toNat) 3)) C 3 cls_X2 (el_X1_doughs (bk_A (σ 0 3)) h9) (by decide) wd271 rfl rfl dX12_risingMinutes_30 ?_
        refine x_goto C 48 dX12_risingMinutes_33 rfl ?_
        refine x_pick [] rfl ?_
        exact hJ4 (σ ((bkA (σ 0 3)) + 2 + (zI p1).toNat) 3)
  · refine x_iconst C (-1) dX12_risingMinutes_11 rfl ?_
    exact x_iretQ C (hQ _) rfl dX12_risingMinutes_12
theorem ct_X12_risingMinutes (l : Launch) (E : xE) (p1 : Int) (p2 : Int) (σ : xS)   : xMet l E yX12_risingMinutes cX12_risingMinutes 3 (some .int) { frames := 2, cells := 0, slots := 0, locals := 42 } [.ref (xqa E.2.2 0), iV p1, iV p2] WW WW σ (xrI (m_X12_risingMinutes p1 p2 σ) σ) := by
  refine xMet.of0 (by decide) (Nat.le_of_ble_eq_true rfl) rfl rfl (fun X hE C => ?_)
  subst hE
  exact xMap (fun v => (some (iV v), σ)) (wk_X12_risingMinutes C (fun _ => rfl) )
theorem mt_X12_risingMinutes : xMth yX12_risingMinutes cX12_risingMinutes 3 (some .int) 2 := ⟨wd987, wd151, ⟨by decide, by decide, rfl⟩⟩
theorem vr_X12_risingMinutes : xVir yX12_risingMinutes := ⟨wd985, wd986⟩
def m_X12_placeOf (p1 : Int) (σ : xS) : Int := if (zI p1) = (-1) then 7 else if (m_X1_hasShop (bkA (σ 0 3)) p1 σ) = 0 then (-1) else p1
set_option maxHeartbeats 4000000 in
set_option maxRecDepth 100000 in
theorem wk_X12_placeOf {X : xX} {Qf : Int → State → Prop} {p1 : Int} {σ : xS} (C : xCx X cX12_placeOf "BakeryNight" (some .int) { frames := 1, cells := 0, slots := 0, locals := 21 } 2) (hQ : ∀ v, Qf v = xQf X WW (some (iV v), σ))  : WO X Qf WW σ 0 [(0, .ref (xqa (xXE X).2.2 0)), (1, iV p1)] [] (some (m_X12_placeOf p1 σ)) := by
  refine x_iload_n C 1 dX12_placeOf_0 rfl rfl ?_
  refine x_iconst C (-1) dX12_placeOf_1 rfl ?_
  refine x_icmp_ne C 8 rfl (zIl _ rfl) dX12_placeOf_2 rfl (fun c1 => ?_) (fun c1 => ?_)
  · refine x_aload_n C 0 dX12_placeOf_8 rfl rfl ?_
    refine x_get (v := .ref (xqa (xXE X).2.2 (bkA (σ 0 3)))) C 3 cls_X12 at_X12 (by decide) wd678 rfl rfl dX12_placeOf_9 ?_
    refine x_iload_n C 1 dX12_placeOf_12 rfl rfl ?_
    refine x_callV C (ct_X1_hasShop _ _ (bkA (σ 0 3)) p1 σ (bk_A (σ 0 3))) mt_X1_hasShop vr_X1_hasShop wd1000 cls_X1 (at_X1 (bk_A (σ 0 3))) rfl ⟨rfl, rfl, Nat.le_of_ble_eq_true rfl, Nat.le_of_ble_eq_true rfl⟩ rfl (by decide) dX12_placeOf_13 (kP ?_)
    refine x_if_eq C 23 (zI_bo (bo_X1_hasShop _ _ _)) dX12_placeOf_16 rfl (fun c2 => ?_) (fun c2 => ?_)
    · refine x_iconst C (-1) dX12_placeOf_23 rfl ?_
      exact x_leafR (by unfold m_X12_placeOf; rw [if_neg c1, if_pos c2]) (x_iretQ C (hQ _) rfl dX12_placeOf_24)
    · refine x_iload_n C 1 dX12_placeOf_19 rfl rfl ?_
      refine x_goto C 24 dX12_placeOf_20 rfl ?_
      exact x_leafR (by unfold m_X12_placeOf; rw [if_neg c1, if_neg c2]) (x_iretQ C (hQ _) rfl dX12_placeOf_24)
  · refine x_bipush C (7) dX12_placeOf_5 rfl ?_
    exact x_leafR (by unfold m_X12_placeOf; rw [if_pos c1]) (x_iretQ C (hQ _) rfl dX12_placeOf_7)
theorem ct_X12_placeOf (l : Launch) (E : xE) (p1 : Int) (σ : xS)   : xMet l E yX12_placeOf cX12_placeOf 2 (some .int) { frames := 1, cells := 0, slots := 0, locals := 21 } [.ref (xqa E.2.2 0), iV p1] WW WW σ (some (some (iV (m_X12_placeOf p1 σ)), σ)) := by
  refine xMet.of0 (by decide) (Nat.le_of_ble_eq_true rfl) rfl rfl (fun X hE C => ?_)
  subst hE
  exact xMap (fun v => (some (iV v), σ)) (wk_X12_placeOf C (fun _ => rfl) )
theorem mt_X12_placeOf : xMth yX12_placeOf cX12_placeOf 2 (some .int) 1 := ⟨wd999, wd151, ⟨by decide, by decide, rfl⟩⟩
theorem vr_X12_placeOf : xVir yX12_placeOf := ⟨wd998, wd23⟩
def m_X12_distance (p1 : Int) (p2 : Int) (σ : xS) : Option Int :=
  xlet (m_X12_placeOf p1 σ) fun v1 => xlet (m_X12_placeOf p2 σ) fun v2 => xj (fun (q6 : Unit) => some (-1)) fun J4 => if (zI v1) = (-1) then J4 () else if (zI v2) = (-1) then J4 () else (m_X9_between ((bkA (σ 0 3)) + 39) v1 v2 σ).bind fun v9 => xlet (if (zI v9) < 1000000 then v9 else (-1)) fun v10 => some v10
set_option maxHeartbeats 4000000 in
set_option maxRecDepth 100000 in
theorem wk_X12_distance {X : xX} {Qf : Int → State → Prop} {p1 : Int} {p2 : Int} {σ : xS} (C : xCx X cX12_distance "BakeryNight" (some .int) { frames := 2, cells := 0, slots := 0, locals := 42 } 6) (hQ : ∀ v, Qf v = xQf X WW (some (iV v), σ))  : WO X Qf WW σ 0 [(0, .ref (xqa (xXE X).2.2 0)), (1, iV p1), (2, iV p2)] [] (m_X12_distance p1 p2 σ) := by
  unfold m_X12_distance
  refine x_aload_n C 0 dX12_distance_0 rfl rfl ?_
  refine x_iload_n C 1 dX12_distance_1 rfl rfl ?_
  refine x_callV C (ct_X12_placeOf _ _ p1 σ) mt_X12_placeOf vr_X12_placeOf wd996 cls_X12 at_X12 rfl ⟨rfl, rfl, Nat.le_of_ble_eq_true rfl, Nat.le_of_ble_eq_true rfl⟩ rfl (by decide) dX12_distance_2 (kP ?_)
  refine x_letI (fun v1 => ?_)
  refine x_istore_n (L' := [(3, _), (0, _), (1, _), (2, _)]) C dX12_distance_5 rfl (by decide) rfl ?_
  refine x_aload_n C 1 dX12_distance_6 rfl rfl ?_
  refine x_iload_n C 3 dX12_distance_7 rfl rfl ?_
  refine x_callV C (ct_X12_placeOf _ _ p2 σ) mt_X12_placeOf vr_X12_placeOf wd996 cls_X12 at_X12 rfl ⟨rfl, rfl, Nat.le_of_ble_eq_true rfl, Nat.le_of_ble_eq_true rfl⟩ rfl (by decide) dX12_distance_8 (kP ?_)
  refine x_letI (fun v2 => ?_)
  refine x_istore (L' := [(4, _), (3, _), (0, _), (1, _), (2, _)]) C dX12_distance_11 (by decide) rfl ?_
  refine x_iload_n C 1 dX12_distance_13 rfl rfl ?_
  refine x_iconst C (-1) dX12_distance_14 rfl ?_
  refine x_join (fun J => ∀ q6 : Unit, WO X Qf WW σ 24 [] [] (J q6)) ?_ ?_
  · intro q6
    refine x_iconst C (-1) dX12_distance_24 rfl ?_
    exact x_iretQ C (hQ _) rfl dX12_distance_25
  · intro J4 hJ5
    refine x_icmp_eq C 24 rfl (zIl _ rfl) dX12_distance_15 rfl (fun c7 => x_op c7 ?_) (fun c7 => x_on c7 ?_)
    · refine x_pick [] rfl ?_
      exact hJ5 ()
    · refine x_iload C 0 dX12_distance_18 rfl ?_
      refine x_iconst C (-1) dX12_distance_20 rfl ?_
      refine x_icmp_ne C 26 rfl (zIl _ rfl) dX12_distance_21 rfl (fun c8 => x_on c8 ?_) (fun c8 => x_op c8 ?_)
      · refine x_aload_n C 2 dX12_distance_26 rfl rfl ?_
        refine x_get (v := .ref (xqa (xXE X).2.2 (bkA (σ 0 3)))) C 3 cls_X12 at_X12 (by decide) wd678 rfl rfl dX12_distance_27 ?_
        refine x_get (v := .ref (xqa (xXE X).2.2 ((bkA (σ 0 3)) + 39))) C 9 cls_X1 (at_X1 (bk_A (σ 0 3))) (by decide) wd476 rfl (xV_r (rt_X1_roads (bk_A (σ 0 3)) _) rfl) dX12_distance_30 ?_
        refine x_iload_n C 1 dX12_distance_33 rfl rfl ?_
        refine x_iload C 0 dX12_distance_34 rfl ?_
        refine x_callV C (ct_X9_between _ _ ((bkA (σ 0 3)) + 39) v1 v2 σ (rd_bk (bk_A (σ 0 3)))) mt_X9_between vr_X9_between wd1004 cls_X9 (at_X9 (rd_bk (bk_A (σ 0 3)))) rfl ⟨rfl, rfl, Nat.le_of_ble_eq_true rfl, Nat.le_of_ble_eq_true rfl⟩ rfl (by decide) dX12_distance_36 (kI (fun v9 => ?_))
        refine x_istore (L' := [(5, _), (4, _), (3, _), (0, _), (1, _), (2, _)]) C dX12_distance_39 (by decide) rfl ?_
        refine x_iload C 0 dX12_distance_41 rfl ?_
        refine x_ldc C (1000000) wd1008 rfl dX12_distance_43 ?_
        refine x_tree 54 [] (fun v10 => ?_) (fun hJ11 => ?_)
        · exact x_iretQ C (hQ _) rfl dX12_distance_54
        · refine x_icmp_lt C 52 rfl (zIl _ rfl) dX12_distance_45 rfl (fun c12 => ?_) (fun c12 => ?_)
          · refine x_iload C 0 dX12_distance_52 rfl ?_
            exact hJ11 _ (by rw [if_pos c12])
          · refine x_iconst C (-1) dX12_distance_48 rfl ?_
            refine x_goto C 54 dX12_distance_49 rfl ?_
            exact hJ11 _ (by rw [if_neg c12])
      · refine x_pick [] rfl ?_
        exact hJ5 ()
theorem ct_X12_distance (l : Launch) (E : xE) (p1 : Int) (p2 : Int) (σ : xS)   : xMet l E yX12_distance cX12_distance 6 (some .int) { frames := 2, cells := 0, slots := 0, locals := 42 } [.ref (xqa E.2.2 0), iV p1, iV p2] WW WW σ (xrI (m_X12_distance p1 p2 σ) σ) := by
  refine xMet.of0 (by decide) (Nat.le_of_ble_eq_true rfl) rfl rfl (fun X hE C => ?_)
  subst hE
  exact xMap (fun v => (some (iV v), σ)) (wk_X12_distance C (fun _ => rfl) )
theorem mt_X12_distance : xMth yX12_distance cX12_distance 6 (some .int) 2 := ⟨wd995, wd151, ⟨by decide, by decide, rfl⟩⟩
theorem vr_X12_distance : xVir yX12_distance := ⟨wd993, wd994⟩
def m_X12_routeMinutes (p1 : Int) (σ : xS) : Option Int :=
  if (zI (zand p1 (zxor (m_X1_allShops (bkA (σ 0 3)) σ) (-1)))) = 0 then (m_X9_restOfRoute ((bkA (σ 0 3)) + 39) 7 p1 σ).bind fun v2 => xlet (if (zI v2) < 1000000 then v2 else (-1)) fun v3 => some v3 else some (-1)
set_option maxHeartbeats 4000000 in
set_option maxRecDepth 100000 in
theorem wk_X12_routeMinutes {X : xX} {Qf : Int → State → Prop} {p1 : Int} {σ : xS} (C : xCx X cX12_routeMinutes "BakeryNight" (some .int) { frames := 1, cells := 0, slots := 0, locals := 22 } 3) (hQ : ∀ v, Qf v = xQf X WW (some (iV v), σ))  : WO X Qf WW σ 0 [(0, .ref (xqa (xXE X).2.2 0)), (1, iV p1)] [] (m_X12_routeMinutes p1 σ) := by
  unfold m_X12_routeMinutes
  refine x_iload_n C 1 dX12_routeMinutes_0 rfl rfl ?_
  refine x_aload_n C 0 dX12_routeMinutes_1 rfl rfl ?_
  refine x_get (v := .ref (xqa (xXE X).2.2 (bkA (σ 0 3)))) C 3 cls_X12 at_X12 (by decide) wd678 rfl rfl dX12_routeMinutes_2 ?_
  refine x_callV C (ct_X1_allShops _ _ (bkA (σ 0 3)) σ (bk_A (σ 0 3))) mt_X1_allShops vr_X1_allShops wd1013 cls_X1 (at_X1 (bk_A (σ 0 3))) rfl ⟨rfl, rfl, Nat.le_of_ble_eq_true rfl, Nat.le_of_ble_eq_true rfl⟩ rfl (Nat.le_of_ble_eq_true rfl) dX12_routeMinutes_5 (kP ?_)
  refine x_iconst C (-1) dX12_routeMinutes_8 rfl ?_
  refine x_ixor C dX12_routeMinutes_9 ?_
  refine x_iand C dX12_routeMinutes_10 ?_
  refine x_if_eq C 16 rfl dX12_routeMinutes_11 rfl (fun c1 => x_op c1 ?_) (fun c1 => x_on c1 ?_)
  · refine x_aload_n C 0 dX12_routeMinutes_16 rfl rfl ?_
    refine x_get (v := .ref (xqa (xXE X).2.2 (bkA (σ 0 3)))) C 3 cls_X12 at_X12 (by decide) wd678 rfl rfl dX12_routeMinutes_17 ?_
    refine x_get (v := .ref (xqa (xXE X).2.2 ((bkA (σ 0 3)) + 39))) C 9 cls_X1 (at_X1 (bk_A (σ 0 3))) (by decide) wd476 rfl (xV_r (rt_X1_roads (bk_A (σ 0 3)) _) rfl) dX12_routeMinutes_20 ?_
    refine x_bipush C (7) dX12_routeMinutes_23 rfl ?_
    refine x_iload_n C 1 dX12_routeMinutes_25 rfl rfl ?_
    refine x_callV C (ct_X9_restOfRoute _ _ ((bkA (σ 0 3)) + 39) 7 p1 σ (rd_bk (bk_A (σ 0 3)))) mt_X9_restOfRoute vr_X9_restOfRoute wd1017 cls_X9 (at_X9 (rd_bk (bk_A (σ 0 3)))) rfl ⟨rfl, rfl, Nat.le_of_ble_eq_true rfl, Nat.le_of_ble_eq_true rfl⟩ rfl (by decide) dX12_routeMinutes_26 (kI (fun v2 => ?_))
    refine x_istore_n (L' := [(2, _), (0, _), (1, _)]) C dX12_routeMinutes_29 rfl (by decide) rfl ?_
    refine x_iload_n C 0 dX12_routeMinutes_30 rfl rfl ?_
    refine x_ldc C (1000000) wd1008 rfl dX12_routeMinutes_31 ?_
    refine x_tree 41 [] (fun v3 => ?_) (fun hJ4 => ?_)
    · exact x_iretQ C (hQ _) rfl dX12_routeMinutes_41
    · refine x_icmp_lt C 40 rfl (zIl _ rfl) dX12_routeMinutes_33 rfl (fun c5 => ?_) (fun c5 => ?_)
      · refine x_iload_n C 0 dX12_routeMinutes_40 rfl rfl ?_
        exact hJ4 _ (by rw [if_pos c5])
      · refine x_iconst C (-1) dX12_routeMinutes_36 rfl ?_
        refine x_goto C 41 dX12_routeMinutes_37 rfl ?_
        exact hJ4 _ (by rw [if_neg c5])
  · refine x_iconst C (-1) dX12_routeMinutes_14 rfl ?_
    exact x_iretQ C (hQ _) rfl dX12_routeMinutes_15
theorem ct_X12_routeMinutes (l : Launch) (E : xE) (p1 : Int) (σ : xS)   : xMet l E yX12_routeMinutes cX12_routeMinutes 3 (some .int) { frames := 1, cells := 0, slots := 0, locals := 22 } [.ref (xqa E.2.2 0), iV p1] WW WW σ (xrI (m_X12_routeMinutes p1 σ) σ) := by
  refine xMet.of0 (by decide) (Nat.le_of_ble_eq_true rfl) rfl rfl (fun X hE C => ?_)
  subst hE
  exact xMap (fun v => (some (iV v), σ)) (wk_X12_routeMinutes C (fun _ => rfl) )
theorem mt_X12_routeMinutes : xMth yX12_routeMinutes cX12_routeMinutes 3 (some .int) 1 := ⟨wd1012, wd151, ⟨by decide, by decide, rfl⟩⟩
theorem vr_X12_routeMinutes : xVir yX12_routeMinutes := ⟨wd1010, wd1011⟩
def m_X12_routeStop (n : Nat) (p1 : Int) (p2 : Int) (σ : xS) : Option Int :=
  (m_X12_routeMinutes p1 σ).bind fun v1 => xj (fun (q5 : Unit) => some (-1)) fun J3 => if (zI v1) = (-1) then J3 () else if (zI p2) < 0 then J3 () else (m_J6_bitCount_0f7a4 p1).bind fun v8 => if (zI p2) < (zI v8) then loopF (fun rec11 (t10 : Int × Int × Int) => if (zI p2) < (zI t10.2.2) then some t10.1 else (m_X9_nextStop n ((bkA (σ 0 3)) + 39) t10.1 t10.2.1 σ).bind fun v14 => xlet (zand t10.2.1 (zxor (zshl 1 v14) (-1))) fun v15 => xlet (t10.2.2 + 1) fun v16 => rec11 (v14, v15, v16)) n (7, p1, 0) else J3 ()
set_option maxHeartbeats 4000000 in
set_option maxRecDepth 100000 in
theorem wk_X12_routeStop {X : xX} {Qf : Int → State → Prop} {n : Nat} {p1 : Int} {p2 : Int} {σ : xS} (C : xCx X cX12_routeStop "BakeryNight" (some .int) { frames := 2, cells := 0, slots := 0, locals := 46 } 6) (hQ : ∀ v, Qf v = xQf X WW (some (iV v), σ))  : WO X Qf WW σ 0 [(0, .ref (xqa (xXE X).2.2 0)), (1, iV p1), (2, iV p2)] [] (m_X12_routeStop n p1 p2 σ) := by
  unfold m_X12_routeStop
  refine x_aload_n C 0 dX12_routeStop_0 rfl rfl ?_
  refine x_iload_n C 1 dX12_routeStop_1 rfl rfl ?_
  refine x_callV C (ct_X12_routeMinutes _ _ p1 σ) mt_X12_routeMinutes vr_X12_routeMinutes wd1025 cls_X12 at_X12 rfl ⟨rfl, rfl, Nat.le_of_ble_eq_true rfl, Nat.le_of_ble_eq_true rfl⟩ rfl (by decide) dX12_routeStop_2 (kI (fun v1 => ?_))
  refine x_iconst C (-1) dX12_routeStop_5 rfl ?_
  refine x_join (fun J => ∀ q5 : Unit, WO X Qf WW σ 21 [] [] (J q5)) ?_ ?_
  · intro q5
    refine x_iconst C (-1) dX12_routeStop_21 rfl ?_
    exact x_iretQ C (hQ _) rfl dX12_routeStop_22
  · intro J3 hJ4
    refine x_icmp_eq C 21 rfl (zIl _ rfl) dX12_routeStop_6 rfl (fun c6 => x_op c6 ?_) (fun c6 => x_on c6 ?_)
    · refine x_pick [] rfl ?_
      exact hJ4 ()
    · refine x_iload_n C 2 dX12_routeStop_9 rfl rfl ?_
      refine x_if_lt C 21 rfl dX12_routeStop_10 rfl (fun c7 => x_op c7 ?_) (fun c7 => x_on c7 ?_)
      · refine x_pick [] rfl ?_
        exact hJ4 ()
      · refine x_iload_n C 2 dX12_routeStop_13 rfl rfl ?_
        refine x_iload_n C 1 dX12_routeStop_14 rfl rfl ?_
        refine x_callS C (ct_J6_bitCount_0f7a4 _ _ p1 σ) mt_J6_bitCount_0f7a4 st_J6_bitCount_0f7a4 wd1026 rfl ⟨rfl, rfl, Nat.le_of_ble_eq_true rfl, Nat.le_of_ble_eq_true rfl⟩ rfl (Nat.le_of_ble_eq_true rfl) dX12_routeStop_15 (kI (fun v8 => ?_))
        refine x_icmp_lt C 23 rfl rfl dX12_routeStop_18 rfl (fun c9 => x_op c9 ?_) (fun c9 => x_on c9 ?_)
        · refine x_bipush C (7) dX12_routeStop_23 rfl ?_
          refine x_istore_n (L' := [(3, _), (0, _), (1, _), (2, _)]) C dX12_routeStop_25 rfl (by decide) rfl ?_
          refine x_iload_n C 2 dX12_routeStop_26 rfl rfl ?_
          refine x_istore (L' := [(4, _), (3, _), (0, _), (1, _), (2, _)]) C dX12_routeStop_27 (by decide) rfl ?_
          refine x_iconst C (0) dX12_routeStop_29 rfl ?_
          refine x_istore (L' := [(5, _), (4, _), (3, _), (0, _), (1, _), (2, _)]) C dX12_routeStop_30 (by decide) rfl ?_
          refine x_pick [3, 5, 2, 1, 0] rfl ?_
          refine x_loop (fun t10 : Int × Int × Int => σ) (fun t10 : Int × Int × Int => [(0, .ref (xqa (xXE X).2.2 0)), (2, iV p2), (3, iV t10.1), (4, iV t10.2.1), (5, iV t10.2.2)]) (fun rec11 hr12 t10 => ?_) n (7, p1, 0)
          refine x_iload C 4 dX12_routeStop_32 rfl ?_
          refine x_iload_n C 1 dX12_routeStop_34 rfl rfl ?_
          refine x_icmp_gt C 68 rfl rfl dX12_routeStop_35 rfl (fun c13 => x_op c13 ?_) (fun c13 => x_on c13 ?_)
          · refine x_iload_n C 2 dX12_routeStop_68 rfl rfl ?_
            exact x_iretQ C (hQ _) rfl dX12_routeStop_69
          · refine x_aload_n C 0 dX12_routeStop_38 rfl rfl ?_
            refine x_get (v := .ref (xqa (xXE X).2.2 (bkA (σ 0 3)))) C 3 cls_X12 at_X12 (by decide) wd678 rfl rfl dX12_routeStop_39 ?_
            refine x_get (v := .ref (xqa (xXE X).2.2 ((bkA (σ 0 3)) + 39))) C 9 cls_X1 (at_X1 (bk_A (σ 0 3))) (by decide) wd476 rfl (xV_r (rt_X1_roads (bk_A (σ 0 3)) _) rfl) dX12_routeStop_42 ?_
            refine x_iload_n C 2 dX12_routeStop_45 rfl rfl ?_
            refine x_iload C 3 dX12_routeStop_46 rfl ?_
            refine x_callV C (ct_X9_nextStop _ _ n ((bkA (σ 0 3)) + 39) t10.1 t10.2.1 σ (rd_bk (bk_A (σ 0 3)))) mt_X9_nextStop vr_X9_nextStop wd1032 cls_X9 (at_X9 (rd_bk (bk_A (σ 0 3)))) rfl ⟨rfl, rfl, Nat.le_of_ble_eq_true rfl, Nat.le_of_ble_eq_true rfl⟩ rfl (by decide) dX12_routeStop_48 (kI (fun v14 => ?_))
            refine x_istore_n (L' := [(3, _), (0, _), (2, _), (4, _), (5, _)]) C dX12_routeStop_51 rfl (by decide) rfl ?_
            refine x_iload C 3 dX12_routeStop_52 rfl ?_
            refine x_iconst C (1) dX12_routeStop_54 rfl ?_
            refine x_iload_n C 0 dX12_routeStop_55 rfl rfl ?_
            refine x_ishl C dX12_routeStop_56 ?_
            refine x_iconst C (-1) dX12_routeStop_57 rfl ?_
            refine x_ixor C dX12_routeStop_58 ?_
            refine x_iand C dX12_routeStop_59 ?_
            refine x_letI (fun v15 => ?_)
            refine x_istore (L' := [(4, _), (3, _), (0, _), (2, _), (5, _)]) C dX12_routeStop_60 (by decide) rfl ?_
            refine x_inc C 4 (f := _) dX12_routeStop_62 rfl (by decide) (1) rfl (fun v16 => ?_)
            refine x_reL (L' := [(5, _), (4, _), (3, _), (0, _), (2, _)]) rfl ?_
            refine x_goto C 32 dX12_routeStop_65 rfl ?_
            refine x_pick [3, 4, 2, 1, 0] rfl ?_
            exact hr12 (v14, v15, v16)
        · refine x_pick [] rfl ?_
          exact hJ4 ()
theorem ct_X12_routeStop (l : Launch) (E : xE) (n : Nat) (p1 : Int) (p2 : Int) (σ : xS)   : xMet l E yX12_routeStop cX12_routeStop 6 (some .int) { frames := 2, cells := 0, slots := 0, locals := 46 } [.ref (xqa E.2.2 0), iV p1, iV p2] WW WW σ (xrI (m_X12_routeStop n p1 p2 σ) σ) := by
  refine xMet.of0 (by decide) (Nat.le_of_ble_eq_true rfl) rfl rfl (fun X hE C => ?_)
  subst hE
  exact xMap (fun v => (some (iV v), σ)) (wk_X12_routeStop C (fun _ => rfl) )
theorem mt_X12_routeStop : xMth yX12_routeStop cX12_routeStop 6 (some .int) 2 := ⟨wd1024, wd151, ⟨by decide, by decide, rfl⟩⟩
theorem vr_X12_routeStop : xVir yX12_routeStop := ⟨wd1022, wd1023⟩
def m_X12_simulate (n : Nat) (p1 : Int) (σ : xS) : Option (Int × xS) :=
  xj (fun (q4 : Unit) => some ((-1), σ)) fun J2 => if (zI p1) < 0 then J2 () else if (zI p1) ≤ 1439 then (m_X12_batchCount n σ).bind fun v7 => if (zI v7) = (-3) then some ((-3), σ) else (m_X4_run n 118 (bkA (σ 0 3)) p1 σ).bind fun s9 => xlet (xput s9 0 8 1) fun s10 => xlet (xput s10 0 9 0) fun s11 => some (s11 118 1, s11) else J2 ()
set_option maxHeartbeats 4000000 in
set_option maxRecDepth 100000 in
theorem wk_X12_simulate {X : xX} {Qf : (Int × xS) → State → Prop} {n : Nat} {p1 : Int} {σ : xS} (C : xCx X cX12_simulate "BakeryNight" (some .int) { frames := 6, cells := 0, slots := 0, locals := 140 } 2) (hQ : ∀ v τ, Qf (v, τ) = xQf X WW (some (iV v), τ))  : WO X Qf WW σ 0 [(0, .ref (xqa (xXE X).2.2 0)), (1, iV p1)] [] (m_X12_simulate n p1 σ) := by
  unfold m_X12_simulate
  refine x_iload_n C 1 dX12_simulate_0 rfl rfl ?_
  refine x_join (fun J => ∀ q4 : Unit, WO X Qf WW σ 11 [] [] (J q4)) ?_ ?_
  · intro q4
    refine x_iconst C (-1) dX12_simulate_11 rfl ?_
    exact x_iretQ C (hQ _ _) rfl dX12_simulate_12
  · intro J2 hJ3
    refine x_if_lt C 11 rfl dX12_simulate_1 rfl (fun c5 => x_op c5 ?_) (fun c5 => x_on c5 ?_)
    · refine x_pick [] rfl ?_
      exact hJ3 ()
    · refine x_iload_n C 1 dX12_simulate_4 rfl rfl ?_
      refine x_sipush C (1439) dX12_simulate_5 rfl ?_
      refine x_icmp_le C 13 rfl (zIl _ rfl) dX12_simulate_8 rfl (fun c6 => x_op c6 ?_) (fun c6 => x_on c6 ?_)
      · refine x_aload_n C 0 dX12_simulate_13 rfl rfl ?_
        refine x_callV C (ct_X12_batchCount _ _ n σ) mt_X12_batchCount vr_X12_batchCount wd1041 cls_X12 at_X12 rfl ⟨rfl, rfl, Nat.le_of_ble_eq_true rfl, Nat.le_of_ble_eq_true rfl⟩ rfl (by decide) dX12_simulate_14 (kI (fun v7 => ?_))
        refine x_bipush C (-3) dX12_simulate_17 rfl ?_
        refine x_icmp_ne C 25 rfl (zIl _ rfl) dX12_simulate_19 rfl (fun c8 => x_on c8 ?_) (fun c8 => x_op c8 ?_)
        · refine x_aload_n C 0 dX12_simulate_25 rfl rfl ?_
          refine x_get (v := .ref (xqa (xXE X).2.2 118)) C 6 cls_X12 at_X12 (by decide) wd681 rfl (xV_r (rt_X12_night  _) rfl) dX12_simulate_26 ?_
          refine x_aload_n C 0 dX12_simulate_29 rfl rfl ?_
          refine x_get (v := .ref (xqa (xXE X).2.2 (bkA (σ 0 3)))) C 3 cls_X12 at_X12 (by decide) wd678 rfl rfl dX12_simulate_30 ?_
          refine x_iload_n C 1 dX12_simulate_33 rfl rfl ?_
          refine x_callV C (ct_X4_run _ _ n 118 (bkA (σ 0 3)) p1 σ (by first | exact Or.inl rfl | exact Or.inr rfl) (bk_A (σ 0 3))) mt_X4_run vr_X4_run wd1042 cls_X4 (at_X4 (by first | exact Or.inl rfl | exact Or.inr rfl)) rfl ⟨rfl, rfl, Nat.le_of_ble_eq_true rfl, Nat.le_of_ble_eq_true rfl⟩ rfl (by decide) dX12_simulate_34 (kV (fun s9 => ?_))
          refine x_aload_n C 0 dX12_simulate_37 rfl rfl ?_
          refine x_iconst C (1) dX12_simulate_38 rfl ?_
          refine x_put C 8 1 cls_X12 at_X12 (by decide) wd683 rfl rfl (xnb (Or.inr rfl)) (xfb (Or.inr rfl)) (xV_pI rfl) dX12_simulate_39 ?_
          refine x_letS (fun s10 => ?_)
          refine x_aload_n C 0 dX12_simulate_42 rfl rfl ?_
          refine x_iconst C (0) dX12_simulate_43 rfl ?_
          refine x_put C 9 0 cls_X12 at_X12 (by decide) wd684 rfl rfl (xnb (Or.inl rfl)) (xfb (Or.inl rfl)) (xV_pI rfl) dX12_simulate_44 ?_
          refine x_letS (fun s11 => ?_)
          refine x_aload_n C 0 dX12_simulate_47 rfl rfl ?_
          refine x_get (v := .ref (xqa (xXE X).2.2 118)) C 6 cls_X12 at_X12 (by decide) wd681 rfl (xV_r (rt_X12_night  _) rfl) dX12_simulate_48 ?_
          refine x_get (v := iV (s11 118 1)) C 1 cls_X4 (at_X4 (by first | exact Or.inl rfl | exact Or.inr rfl)) (by decide) wd553 rfl rfl dX12_simulate_51 ?_
          exact x_iretQ C (hQ _ _) rfl dX12_simulate_54
        · refine x_bipush C (-3) dX12_simulate_22 rfl ?_
          exact x_iretQ C (hQ _ _) rfl dX12_simulate_24
      · refine x_pick [] rfl ?_
        exact hJ3 ()
theorem ct_X12_simulate (l : Launch) (E : xE) (n : Nat) (p1 : Int) (σ : xS)   : xMet l E yX12_simulate cX12_simulate 2 (some .int) { frames := 6, cells := 0, slots := 0, locals := 140 } [.ref (xqa E.2.2 0), iV p1] WW WW σ (xrS (m_X12_simulate n p1 σ)) := by
  refine xMet.of0 (by decide) (Nat.le_of_ble_eq_true rfl) rfl rfl (fun X hE C => ?_)
  subst hE
  exact xMap (fun q => (some (iV q.1), q.2)) (wk_X12_simulate C (fun _ _ => rfl) )
theorem mt_X12_simulate : xMth yX12_simulate cX12_simulate 2 (some .int) 1 := ⟨wd1040, wd151, ⟨by decide, by decide, rfl⟩⟩
theorem vr_X12_simulate : xVir yX12_simulate := ⟨wd1038, wd1039⟩
def m_X12_spoiledCount (n : Nat) (σ : xS) : Option Int :=
  xj (fun (q4 : Int) => some q4) fun J2 => if (zI (σ 0 8)) = 0 then J2 (-2) else (m_X4_spoiledBatches n 118 σ).bind fun v6 => J2 v6
set_option maxHeartbeats 4000000 in
set_option maxRecDepth 100000 in
theorem wk_X12_spoiledCount {X : xX} {Qf : Int → State → Prop} {n : Nat} {σ : xS} (C : xCx X cX12_spoiledCount "BakeryNight" (some .int) { frames := 1, cells := 0, slots := 0, locals := 22 } 1) (hQ : ∀ v, Qf v = xQf X WW (some (iV v), σ))  : WO X Qf WW σ 0 [(0, .ref (xqa (xXE X).2.2 0))] [] (m_X12_spoiledCount n σ) := by
  unfold m_X12_spoiledCount
  refine x_aload_n C 0 dX12_spoiledCount_0 rfl rfl ?_
  refine x_get (v := iV (σ 0 8)) C 8 cls_X12 at_X12 (by decide) wd683 rfl rfl dX12_spoiledCount_1 ?_
  refine x_join (fun J => ∀ q4 : Int, WO X Qf WW σ 19 [] [iV q4] (J q4)) ?_ ?_
  · intro q4
    exact x_iretQ C (hQ _) rfl dX12_spoiledCount_19
  · intro J2 hJ3
    refine x_if_eq C 17 rfl dX12_spoiledCount_4 rfl (fun c5 => x_op c5 ?_) (fun c5 => x_on c5 ?_)
    · refine x_bipush C (-2) dX12_spoiledCount_17 rfl ?_
      refine x_pick [] rfl ?_
      exact hJ3 (-2)
    · refine x_aload_n C 0 dX12_spoiledCount_7 rfl rfl ?_
      refine x_get (v := .ref (xqa (xXE X).2.2 118)) C 6 cls_X12 at_X12 (by decide) wd681 rfl (xV_r (rt_X12_night  _) rfl) dX12_spoiledCount_8 ?_
      refine x_callV C (ct_X4_spoiledBatches _ _ n 118 σ (by first | exact Or.inl rfl | exact Or.inr rfl)) mt_X4_spoiledBatches vr_X4_spoiledBatches wd1142 cls_X4 (at_X4 (by first | exact Or.inl rfl | exact Or.inr rfl)) rfl ⟨rfl, rfl, Nat.le_of_ble_eq_true rfl, Nat.le_of_ble_eq_true rfl⟩ rfl (by decide) dX12_spoiledCount_11 (kI (fun v6 => ?_))
      refine x_goto C 19 dX12_spoiledCount_14 rfl ?_
      refine x_pick [] rfl ?_
      exact hJ3 v6
theorem ct_X12_spoiledCount (l : Launch) (E : xE) (n : Nat) (σ : xS)   : xMet l E yX12_spoiledCount cX12_spoiledCount 1 (some .int) { frames := 1, cells := 0, slots := 0, locals := 22 } [.ref (xqa E.2.2 0)] WW WW σ (xrI (m_X12_spoiledCount n σ) σ) := by
  refine xMet.of0 (by decide) (Nat.le_of_ble_eq_true rfl) rfl rfl (fun X hE C => ?_)
  subst hE
  exact xMap (fun v => (some (iV v), σ)) (wk_X12_spoiledCount C (fun _ => rfl) )
theorem mt_X12_spoiledCount : xMth yX12_spoiledCount cX12_spoiledCount 1 (some .int) 0 := ⟨wd1141, wd151, ⟨by decide, by decide, rfl⟩⟩
theorem vr_X12_spoiledCount : xVir yX12_spoiledCount := ⟨wd1139, wd1140⟩
def m_X12_changingMinutes (p1 : Int) (σ : xS) : Option Int :=
  if (zI (σ 0 8)) = 0 then some (-2) else xj (fun (q4 : Int) => some q4) fun J2 => if (m_X1_hasOven (bkA (σ 0 3)) p1 σ) = 0 then J2 (-1) else xck (zI p1) 4 <| J2 (σ (118 + 17) (zI p1).toNat)
set_option maxHeartbeats 4000000 in
set_option maxRecDepth 100000 in
theorem wk_X12_changingMinutes {X : xX} {Qf : Int → State → Prop} {p1 : Int} {σ : xS} (C : xCx X cX12_changingMinutes "BakeryNight" (some .int) { frames := 1, cells := 0, slots := 0, locals := 21 } 2) (hQ : ∀ v, Qf v = xQf X WW (some (iV v), σ))  : WO X Qf WW σ 0 [(0, .ref (xqa (xXE X).2.2 0)), (1, iV p1)] [] (m_X12_changingMinutes p1 σ) := by
  unfold m_X12_changingMinutes
  refine x_aload_n C 0 dX12_changingMinutes_0 rfl rfl ?_
  refine x_get (v := iV (σ 0 8)) C 8 cls_X12 at_X12 (by decide) wd683 rfl rfl dX12_changingMinutes_1 ?_
  refine x_if_ne C 10 rfl dX12_changingMinutes_4 rfl (fun c1 => x_on c1 ?_) (fun c1 => x_op c1 ?_)
  · refine x_aload_n C 0 dX12_changingMinutes_10 rfl rfl ?_
    refine x_get (v := .ref (xqa (xXE X).2.2 (bkA (σ 0 3)))) C 3 cls_X12 at_X12 (by decide) wd678 rfl rfl dX12_changingMinutes_11 ?_
    refine x_iload_n C 1 dX12_changingMinutes_14 rfl rfl ?_
    refine x_callV C (ct_X1_hasOven _ _ (bkA (σ 0 3)) p1 σ (bk_A (σ 0 3))) mt_X1_hasOven vr_X1_hasOven wd1150 cls_X1 (at_X1 (bk_A (σ 0 3))) rfl ⟨rfl, rfl, Nat.le_of_ble_eq_true rfl, Nat.le_of_ble_eq_true rfl⟩ rfl (by decide) dX12_changingMinutes_15 (kP ?_)
    refine x_join (fun J => ∀ q4 : Int, WO X Qf WW σ 34 [] [iV q4] (J q4)) ?_ ?_
    · intro q4
      exact x_iretQ C (hQ _) rfl dX12_changingMinutes_34
    · intro J2 hJ3
      refine x_if_eq C 33 (zI_bo (bo_X1_hasOven _ _ _)) dX12_changingMinutes_18 rfl (fun c5 => x_op c5 ?_) (fun c5 => x_on c5 ?_)
      · refine x_iconst C (-1) dX12_changingMinutes_33 rfl ?_
        refine x_pick [] rfl ?_
        exact hJ3 (-1)
      · refine x_aload_n C 0 dX12_changingMinutes_21 rfl rfl ?_
        refine x_get (v := .ref (xqa (xXE X).2.2 118)) C 6 cls_X12 at_X12 (by decide) wd681 rfl (xV_r (rt_X12_night  _) rfl) dX12_changingMinutes_22 ?_
        refine x_get (v := .ref (xqa (xXE X).2.2 (118 + 17))) C 16 cls_X4 (at_X4 (by first | exact Or.inl rfl | exact Or.inr rfl)) (by decide) wd572 rfl (xV_r (rt_X4_changed (by first | exact Or.inl rfl | exact Or.inr rfl) _) rfl) dX12_changingMinutes_25 ?_
        refine x_iload_n C 1 dX12_changingMinutes_28 rfl rfl ?_
        refine x_iald C (at_X4_changed (by first | exact Or.inl rfl | exact Or.inr rfl)) rfl dX12_changingMinutes_29 (fun _ => ?_)
        refine x_goto C 34 dX12_changingMinutes_30 rfl ?_
        refine x_pick [] rfl ?_
        exact hJ3 (σ (118 + 17) (zI p1).toNat)
  · refine x_bipush C (-2) dX12_changingMinutes_7 rfl ?_
    exact x_iretQ C (hQ _) rfl dX12_changingMinutes_9
theorem ct_X12_changingMinutes (l : Launch) (E : xE) (p1 : Int) (σ : xS)   : xMet l E yX12_changingMinutes cX12_changingMinutes 2 (some .int) { frames := 1, cells := 0, slots := 0, locals := 21 } [.ref (xqa E.2.2 0), iV p1] WW WW σ (xrI (m_X12_changingMinutes p1 σ) σ) := by
  refine xMet.of0 (by decide) (Nat.le_of_ble_eq_true rfl) rfl rfl (fun X hE C => ?_)
  subst hE
  exact xMap (fun v => (some (iV v), σ)) (wk_X12_changingMinutes C (fun _ => rfl) )
theorem mt_X12_changingMinutes : xMth yX12_changingMinutes cX12_changingMinutes 2 (some .int) 1 := ⟨wd1149, wd151, ⟨by decide, by decide, rfl⟩⟩
theorem vr_X12_changingMinutes : xVir yX12_changingMinutes := ⟨wd1147, wd1148⟩
