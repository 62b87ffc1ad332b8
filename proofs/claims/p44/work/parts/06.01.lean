def m_X4_begin (n : Nat) (k0 : Nat) (k1 : Nat) (p2 : Int) (σ : xS) : Option xS :=
  xlet (xput σ k0 0 p2) fun s1 => xlet (xput s1 k0 1 p2) fun s2 => xlet (xput s2 k0 9 0) fun s3 => xlet (xput s3 k0 11 0) fun s4 => xlet (xput s4 k0 13 0) fun s5 => loopF (fun rec7 (t6 : Int × xS) => if 6 ≤ (zI t6.1) then (m_J7_fill_53178 n (k0 + 2) 60 (-1) t6.2).bind fun s10 => (m_J7_fill_53178 n (k0 + 10) 60 (-1) s10).bind fun s11 => (m_J7_fill_53178 n (k0 + 11) 60 (-1) s11).bind fun s12 => (m_J7_fill_53178 n (k0 + 12) 60 (-1) s12).bind fun s13 => (m_J7_fill_53178 n (k0 + 16) 4 (-1) s13).bind fun s14 => (m_J7_fill_53178 n (k0 + 17) 4 0 s14).bind fun s15 => loopF (fun rec17 (t16 : Int × xS) => if (zI (t16.2 k1 7)) ≤ (zI t16.1) then (m_X4_numberBatches n k0 k1 t16.2).bind fun s20 => some s20 else xck (zI t16.1) 4 <| xck (zI t16.1) 4 <| xlet (xput t16.2 (k0 + 15) (zI t16.1).toNat (t16.2 (k1 + 9 + (zI t16.1).toNat) 1)) fun s22 => xlet (t16.1 + 1) fun v23 => rec17 (v23, s22)) n (0, s15) else xck (zI t6.1) 6 <| (m_J7_fill_53178 n (k0 + 4 + (zI t6.1).toNat) 60 (-1) t6.2).bind fun s25 => xlet (t6.1 + 1) fun v26 => rec7 (v26, s25)) n (0, s5)
set_option maxHeartbeats 4000000 in
set_option maxRecDepth 100000 in
theorem wk_X4_begin {X : xX} {Qf : xS → State → Prop} {n : Nat} {k0 : Nat} {k1 : Nat} {p2 : Int} {σ : xS} (C : xCx X cX4_begin "BakeryNight$Night" none { frames := 4, cells := 0, slots := 0, locals := 90 } 7) (hQ : ∀ τ, Qf τ = xQf X WW (none, τ)) (hk0 : isNt k0) (hk1 : isBk k1) : WO X Qf WW σ 0 [(0, .ref (xqa (xXE X).2.2 k0)), (1, .ref (xqa (xXE X).2.2 k1)), (2, iV p2)] [] (m_X4_begin n k0 k1 p2 σ) := by
  unfold m_X4_begin
  refine x_aload_n C 0 dX4_begin_0 rfl rfl ?_
  refine x_iload_n C 2 dX4_begin_1 rfl rfl ?_
  refine x_put C 0 p2 cls_X4 (at_X4 hk0) (by decide) wd445 rfl rfl rfl rfl (xV_pI rfl) dX4_begin_2 ?_
  refine x_letS (fun s1 => ?_)
  refine x_aload_n C 0 dX4_begin_5 rfl rfl ?_
  refine x_iload_n C 2 dX4_begin_6 rfl rfl ?_
  refine x_put C 1 p2 cls_X4 (at_X4 hk0) (by decide) wd446 rfl rfl rfl rfl (xV_pI rfl) dX4_begin_7 ?_
  refine x_letS (fun s2 => ?_)
  refine x_aload_n C 0 dX4_begin_10 rfl rfl ?_
  refine x_iconst C (0) dX4_begin_11 rfl ?_
  refine x_put C 9 0 cls_X4 (at_X4 hk0) (by decide) wd458 rfl rfl rfl rfl (xV_pI rfl) dX4_begin_12 ?_
  refine x_letS (fun s3 => ?_)
  refine x_aload_n C 0 dX4_begin_15 rfl rfl ?_
  refine x_iconst C (0) dX4_begin_16 rfl ?_
  refine x_put C 11 0 cls_X4 (at_X4 hk0) (by decide) wd460 rfl rfl rfl rfl (xV_pI rfl) dX4_begin_17 ?_
  refine x_letS (fun s4 => ?_)
  refine x_aload_n C 0 dX4_begin_20 rfl rfl ?_
  refine x_iconst C (0) dX4_begin_21 rfl ?_
  refine x_put C 13 0 cls_X4 (at_X4 hk0) (by decide) wd462 rfl rfl rfl rfl (xV_pI rfl) dX4_begin_22 ?_
  refine x_letS (fun s5 => ?_)
  refine x_aload_n C 0 dX4_begin_25 rfl rfl ?_
  refine x_get (v := .ref (xqa (xXE X).2.2 (k0 + 3))) C 5 cls_X4 (at_X4 hk0) (by decide) wd453 rfl (xV_r (rt_X4_begun hk0 _) rfl) dX4_begin_26 ?_
  refine x_astore_n (L' := [(3, _), (0, _), (1, _), (2, _)]) C dX4_begin_29 rfl (by decide) rfl ?_
  refine x_aload_n C 0 dX4_begin_30 rfl rfl ?_
  refine x_alen C 6 (at_X4_begun hk0) (Nat.le_of_ble_eq_true rfl) rfl dX4_begin_31 ?_
  refine x_istore (L' := [(4, _), (3, _), (0, _), (1, _), (2, _)]) C dX4_begin_32 (by decide) rfl ?_
  refine x_iconst C (0) dX4_begin_34 rfl ?_
  refine x_istore (L' := [(5, _), (4, _), (3, _), (0, _), (1, _), (2, _)]) C dX4_begin_35 (by decide) rfl ?_
  refine x_pick [3, 4, 2, 1, 0] rfl ?_
  refine x_loop (fun t6 : Int × xS => t6.2) (fun t6 : Int × xS => [(0, .ref (xqa (xXE X).2.2 k0)), (1, .ref (xqa (xXE X).2.2 k1)), (3, .ref (xqa (xXE X).2.2 (k0 + 3))), (4, iV 6), (5, iV t6.1)]) (fun rec7 hr8 t6 => ?_) n (0, s5)
  refine x_iload C 4 dX4_begin_37 rfl ?_
  refine x_iload C 3 dX4_begin_39 rfl ?_
  refine x_icmp_ge C 62 rfl (zIl _ rfl) dX4_begin_41 rfl (fun c9 => x_op c9 ?_) (fun c9 => x_on c9 ?_)
  · refine x_aload_n C 0 dX4_begin_62 rfl rfl ?_
    refine x_get (v := .ref (xqa (xXE X).2.2 (k0 + 2))) C 4 cls_X4 (at_X4 hk0) (by decide) wd451 rfl (xV_r (rt_X4_oven hk0 _) rfl) dX4_begin_63 ?_
    refine x_iconst C (-1) dX4_begin_66 rfl ?_
    refine x_callS C (ct_J7_fill_53178 _ _ n (k0 + 2) 60 (-1) t6.2 (at_X4_oven hk0)) mt_J7_fill_53178 st_J7_fill_53178 wd661 rfl ⟨rfl, rfl, Nat.le_of_ble_eq_true rfl, Nat.le_of_ble_eq_true rfl⟩ rfl (by decide) dX4_begin_67 (kV (fun s10 => ?_))
    refine x_aload_n C 0 dX4_begin_70 rfl rfl ?_
    refine x_get (v := .ref (xqa (xXE X).2.2 (k0 + 10))) C 6 cls_X4 (at_X4 hk0) (by decide) wd455 rfl (xV_r (rt_X4_risen hk0 _) rfl) dX4_begin_71 ?_
    refine x_iconst C (-1) dX4_begin_74 rfl ?_
    refine x_callS C (ct_J7_fill_53178 _ _ n (k0 + 10) 60 (-1) s10 (at_X4_risen hk0)) mt_J7_fill_53178 st_J7_fill_53178 wd661 rfl ⟨rfl, rfl, Nat.le_of_ble_eq_true rfl, Nat.le_of_ble_eq_true rfl⟩ rfl (by decide) dX4_begin_75 (kV (fun s11 => ?_))
    refine x_aload_n C 0 dX4_begin_78 rfl rfl ?_
    refine x_get (v := .ref (xqa (xXE X).2.2 (k0 + 11))) C 7 cls_X4 (at_X4 hk0) (by decide) wd456 rfl (xV_r (rt_X4_proofed hk0 _) rfl) dX4_begin_79 ?_
    refine x_iconst C (-1) dX4_begin_82 rfl ?_
    refine x_callS C (ct_J7_fill_53178 _ _ n (k0 + 11) 60 (-1) s11 (at_X4_proofed hk0)) mt_J7_fill_53178 st_J7_fill_53178 wd661 rfl ⟨rfl, rfl, Nat.le_of_ble_eq_true rfl, Nat.le_of_ble_eq_true rfl⟩ rfl (by decide) dX4_begin_83 (kV (fun s12 => ?_))
    refine x_aload_n C 0 dX4_begin_86 rfl rfl ?_
    refine x_get (v := .ref (xqa (xXE X).2.2 (k0 + 12))) C 8 cls_X4 (at_X4 hk0) (by decide) wd457 rfl (xV_r (rt_X4_spoiled hk0 _) rfl) dX4_begin_87 ?_
    refine x_iconst C (-1) dX4_begin_90 rfl ?_
    refine x_callS C (ct_J7_fill_53178 _ _ n (k0 + 12) 60 (-1) s12 (at_X4_spoiled hk0)) mt_J7_fill_53178 st_J7_fill_53178 wd661 rfl ⟨rfl, rfl, Nat.le_of_ble_eq_true rfl, Nat.le_of_ble_eq_true rfl⟩ rfl (by decide) dX4_begin_91 (kV (fun s13 => ?_))
    refine x_aload_n C 0 dX4_begin_94 rfl rfl ?_
    refine x_get (v := .ref (xqa (xXE X).2.2 (k0 + 16))) C 15 cls_X4 (at_X4 hk0) (by decide) wd464 rfl (xV_r (rt_X4_steady hk0 _) rfl) dX4_begin_95 ?_
    refine x_iconst C (-1) dX4_begin_98 rfl ?_
    refine x_callS C (ct_J7_fill_53178 _ _ n (k0 + 16) 4 (-1) s13 (at_X4_steady hk0)) mt_J7_fill_53178 st_J7_fill_53178 wd661 rfl ⟨rfl, rfl, Nat.le_of_ble_eq_true rfl, Nat.le_of_ble_eq_true rfl⟩ rfl (by decide) dX4_begin_99 (kV (fun s14 => ?_))
    refine x_aload_n C 0 dX4_begin_102 rfl rfl ?_
    refine x_get (v := .ref (xqa (xXE X).2.2 (k0 + 17))) C 16 cls_X4 (at_X4 hk0) (by decide) wd465 rfl (xV_r (rt_X4_changed hk0 _) rfl) dX4_begin_103 ?_
    refine x_iconst C (0) dX4_begin_106 rfl ?_
    refine x_callS C (ct_J7_fill_53178 _ _ n (k0 + 17) 4 0 s14 (at_X4_changed hk0)) mt_J7_fill_53178 st_J7_fill_53178 wd661 rfl ⟨rfl, rfl, Nat.le_of_ble_eq_true rfl, Nat.le_of_ble_eq_true rfl⟩ rfl (by decide) dX4_begin_107 (kV (fun s15 => ?_))
    refine x_iconst C (0) dX4_begin_110 rfl ?_
    refine x_istore_n (L' := [(3, _), (0, _), (1, _), (4, _), (5, _)]) C dX4_begin_111 rfl (by decide) rfl ?_
    refine x_pick [1, 2, 0] rfl ?_
    refine x_loop (fun t16 : Int × xS => t16.2) (fun t16 : Int × xS => [(0, .ref (xqa (xXE X).2.2 k0)), (1, .ref (xqa (xXE X).2.2 k1)), (3, iV t16.1)]) (fun rec17 hr18 t16 => ?_) n (0, s15)
    refine x_iload_n C 2 dX4_begin_112 rfl rfl ?_
    refine x_aload_n C 1 dX4_begin_113 rfl rfl ?_
    refine x_get (v := iV (t16.2 k1 7)) C 7 cls_X1 (at_X1 hk1) (by decide) wd362 rfl rfl dX4_begin_114 ?_
    refine x_icmp_ge C 141 rfl rfl dX4_begin_117 rfl (fun c19 => x_op c19 ?_) (fun c19 => x_on c19 ?_)
    · refine x_aload_n C 0 dX4_begin_141 rfl rfl ?_
      refine x_aload_n C 1 dX4_begin_142 rfl rfl ?_
      refine x_callV C (ct_X4_numberBatches _ _ n k0 k1 t16.2 hk0 hk1) mt_X4_numberBatches vr_X4_numberBatches wd662 cls_X4 (at_X4 hk0) rfl ⟨rfl, rfl, Nat.le_of_ble_eq_true rfl, Nat.le_of_ble_eq_true rfl⟩ rfl (by decide) dX4_begin_143 (kV (fun s20 => ?_))
      exact x_vretQ C (hQ _) rfl dX4_begin_146
    · refine x_aload_n C 0 dX4_begin_120 rfl rfl ?_
      refine x_get (v := .ref (xqa (xXE X).2.2 (k0 + 15))) C 14 cls_X4 (at_X4 hk0) (by decide) wd463 rfl (xV_r (rt_X4_heat hk0 _) rfl) dX4_begin_121 ?_
      refine x_iload_n C 2 dX4_begin_124 rfl rfl ?_
      refine x_aload_n C 1 dX4_begin_125 rfl rfl ?_
      refine x_get (v := .ref (xqa (xXE X).2.2 (k1 + 8))) C 6 cls_X1 (at_X1 hk1) (by decide) wd357 rfl (xV_r (rt_X1_ovens hk1 _) rfl) dX4_begin_126 ?_
      refine x_iload_n C 2 dX4_begin_129 rfl rfl ?_
      refine x_aald C (at_X1_ovens hk1) (by decide) rfl (fun h21 => rl_X1_ovens hk1 _ h21) dX4_begin_130 (fun h21 => ?_)
      refine x_get (v := iV (t16.2 (k1 + 9 + (zI t16.1).toNat) 1)) C 1 cls_X6 (el_X1_ovens hk1 h21) (by decide) wd214 rfl rfl dX4_begin_131 ?_
      refine x_iast C (at_X4_heat hk0) rfl dX4_begin_134 (fun _ => ?_)
      refine x_letS (fun s22 => ?_)
      refine x_inc C 2 (f := _) dX4_begin_135 rfl (by decide) (1) rfl (fun v23 => ?_)
      refine x_reL (L' := [(3, _), (0, _), (1, _)]) rfl ?_
      refine x_goto C 112 dX4_begin_138 rfl ?_
      refine x_pick [1, 2, 0] rfl ?_
      exact hr18 (v23, s22)
  · refine x_aload_n C 2 dX4_begin_44 rfl rfl ?_
    refine x_iload C 4 dX4_begin_45 rfl ?_
    refine x_aald C (at_X4_begun hk0) (by decide) rfl (fun h24 => rl_X4_begun hk0 _ h24) dX4_begin_47 (fun h24 => ?_)
    refine x_astore (L' := [(6, _), (0, _), (1, _), (3, _), (4, _), (5, _)]) C dX4_begin_48 (by decide) rfl ?_
    refine x_aload C 0 dX4_begin_50 rfl ?_
    refine x_iconst C (-1) dX4_begin_52 rfl ?_
    refine x_callS C (ct_J7_fill_53178 _ _ n (k0 + 4 + (zI t6.1).toNat) 60 (-1) t6.2 (el_X4_begun hk0 h24)) mt_J7_fill_53178 st_J7_fill_53178 wd661 rfl ⟨rfl, rfl, Nat.le_of_ble_eq_true rfl, Nat.le_of_ble_eq_true rfl⟩ rfl (by decide) dX4_begin_53 (kV (fun s25 => ?_))
    refine x_inc C 5 (f := _) dX4_begin_56 rfl (by decide) (1) rfl (fun v26 => ?_)
    refine x_reL (L' := [(5, _), (6, _), (0, _), (1, _), (3, _), (4, _)]) rfl ?_
    refine x_goto C 37 dX4_begin_59 rfl ?_
    refine x_pick [2, 3, 4, 5, 0] rfl ?_
    exact hr8 (v26, s25)
theorem ct_X4_begin (l : Launch) (E : xE) (n : Nat) (k0 : Nat) (k1 : Nat) (p2 : Int) (σ : xS) (hk0 : isNt k0) (hk1 : isBk k1)  : xMet l E yX4_begin cX4_begin 7 none { frames := 4, cells := 0, slots := 0, locals := 90 } [.ref (xqa E.2.2 k0), .ref (xqa E.2.2 k1), iV p2] WW WW σ (xrV (m_X4_begin n k0 k1 p2 σ)) := by
  refine xMet.of0 (by decide) (Nat.le_of_ble_eq_true rfl) rfl rfl (fun X hE C => ?_)
  subst hE
  exact xMap (fun q => (none, q)) (wk_X4_begin C (fun _ => rfl) hk0 hk1)
theorem mt_X4_begin : xMth yX4_begin cX4_begin 7 none 2 := ⟨wd660, wd60, ⟨by decide, by decide, rfl⟩⟩
theorem vr_X4_begin : xVir yX4_begin := ⟨wd659, wd3⟩
def m_X4_isIn (k0 : Nat) (p1 : Int) (p2 : Int) (p3 : Int) (σ : xS) : Option Int :=
  xck (zI p2) 6 <| xck (zI p1) 60 <| xlet (σ (k0 + 4 + (zI p2).toNat) (zI p1).toNat) fun v2 => xj (fun (q7 : Int) => xbo q7 (some q7)) fun J5 => xj (fun (q10 : Unit) => J5 0) fun J8 => if (zI v2) = (-1) then J8 () else if (zI p3) < (zI v2) then J8 () else xck (zI (p2 + 1)) 6 <| xck (zI p1) 60 <| if (zI (σ (k0 + 4 + (zI (p2 + 1)).toNat) (zI p1).toNat)) ≤ (zI p3) then J8 () else J5 1
set_option maxHeartbeats 4000000 in
set_option maxRecDepth 100000 in
theorem wk_X4_isIn {X : xX} {Qf : Int → State → Prop} {k0 : Nat} {p1 : Int} {p2 : Int} {p3 : Int} {σ : xS} (C : xCx X cX4_isIn "BakeryNight$Night" (some .boolean) { frames := 0, cells := 0, slots := 0, locals := 0 } 5) (hQ : ∀ v, Qf v = xQf X WW (some (iV v), σ)) (hk0 : isNt k0) : WO X Qf WW σ 0 [(0, .ref (xqa (xXE X).2.2 k0)), (1, iV p1), (2, iV p2), (3, iV p3)] [] (m_X4_isIn k0 p1 p2 p3 σ) := by
  unfold m_X4_isIn
  refine x_aload_n C 0 dX4_isIn_0 rfl rfl ?_
  refine x_get (v := .ref (xqa (xXE X).2.2 (k0 + 3))) C 5 cls_X4 (at_X4 hk0) (by decide) wd453 rfl (xV_r (rt_X4_begun hk0 _) rfl) dX4_isIn_1 ?_
  refine x_iload_n C 2 dX4_isIn_4 rfl rfl ?_
  refine x_aald C (at_X4_begun hk0) (by decide) rfl (fun h1 => rl_X4_begun hk0 _ h1) dX4_isIn_5 (fun h1 => ?_)
  refine x_iload_n C 1 dX4_isIn_6 rfl rfl ?_
  refine x_iald C (el_X4_begun hk0 h1) rfl dX4_isIn_7 (fun _ => ?_)
  refine x_letI (fun v2 => ?_)
  refine x_istore (L' := [(4, _), (0, _), (1, _), (2, _), (3, _)]) C dX4_isIn_8 (by decide) rfl ?_
  refine x_iload C 0 dX4_isIn_10 rfl ?_
  refine x_iconst C (-1) dX4_isIn_12 rfl ?_
  refine x_join (fun J => ∀ q7 : Int, WO X Qf WW σ 41 [] [iV q7] (J q7)) ?_ ?_
  · intro q7
    exact x_bo (fun hb => x_zretQ C (hQ _) rfl hb dX4_isIn_41)
  · intro J5 hJ6
    refine x_join (fun J => ∀ q10 : Unit, WO X Qf WW σ 40 [] [] (J q10)) ?_ ?_
    · intro q10
      refine x_iconst C (0) dX4_isIn_40 rfl ?_
      refine x_pick [] rfl ?_
      exact hJ6 0
    · intro J8 hJ9
      refine x_icmp_eq C 40 rfl (zIl _ rfl) dX4_isIn_13 rfl (fun c11 => x_op c11 ?_) (fun c11 => x_on c11 ?_)
      · refine x_pick [] rfl ?_
        exact hJ9 ()
      · refine x_iload C 0 dX4_isIn_16 rfl ?_
        refine x_iload_n C 4 dX4_isIn_18 rfl rfl ?_
        refine x_icmp_gt C 40 rfl rfl dX4_isIn_19 rfl (fun c12 => x_op c12 ?_) (fun c12 => x_on c12 ?_)
        · refine x_pick [] rfl ?_
          exact hJ9 ()
        · refine x_iload_n C 4 dX4_isIn_22 rfl rfl ?_
          refine x_aload_n C 1 dX4_isIn_23 rfl rfl ?_
          refine x_get (v := .ref (xqa (xXE X).2.2 (k0 + 3))) C 5 cls_X4 (at_X4 hk0) (by decide) wd453 rfl (xV_r (rt_X4_begun hk0 _) rfl) dX4_isIn_24 ?_
          refine x_iload_n C 3 dX4_isIn_27 rfl rfl ?_
          refine x_iconst C (1) dX4_isIn_28 rfl ?_
          refine x_iadd C dX4_isIn_29 ?_
          refine x_aald C (at_X4_begun hk0) (by decide) rfl (fun h13 => rl_X4_begun hk0 _ h13) dX4_isIn_30 (fun h13 => ?_)
          refine x_iload_n C 2 dX4_isIn_31 rfl rfl ?_
          refine x_iald C (el_X4_begun hk0 h13) rfl dX4_isIn_32 (fun _ => ?_)
          refine x_icmp_ge C 40 rfl rfl dX4_isIn_33 rfl (fun c14 => x_op c14 ?_) (fun c14 => x_on c14 ?_)
          · refine x_pick [] rfl ?_
            exact hJ9 ()
          · refine x_iconst C (1) dX4_isIn_36 rfl ?_
            refine x_goto C 41 dX4_isIn_37 rfl ?_
            refine x_pick [] rfl ?_
            exact hJ6 1
theorem ct_X4_isIn (l : Launch) (E : xE) (k0 : Nat) (p1 : Int) (p2 : Int) (p3 : Int) (σ : xS) (hk0 : isNt k0)  : xMet l E yX4_isIn cX4_isIn 5 (some .boolean) { frames := 0, cells := 0, slots := 0, locals := 0 } [.ref (xqa E.2.2 k0), iV p1, iV p2, iV p3] WW WW σ (xrI (m_X4_isIn k0 p1 p2 p3 σ) σ) := by
  refine xMet.of0 (by decide) (Nat.le_of_ble_eq_true rfl) rfl rfl (fun X hE C => ?_)
  subst hE
  exact xMap (fun v => (some (iV v), σ)) (wk_X4_isIn C (fun _ => rfl) hk0)
theorem mt_X4_isIn : xMth yX4_isIn cX4_isIn 5 (some .boolean) 3 := ⟨wd685, wd60, ⟨by decide, by decide, rfl⟩⟩
theorem vr_X4_isIn : xVir yX4_isIn := ⟨wd684, wd6⟩
def m_X4_shelvesTaken (n : Nat) (k0 : Nat) (p1 : Int) (p2 : Int) (σ : xS) : Option Int :=
  loopF (fun rec2 (t1 : Int × Int) => if (zI (σ k0 2)) ≤ (zI t1.2) then some t1.1 else xck (zI t1.2) 60 <| xj (fun (q9 : Int) => xlet (t1.1 + q9) fun v10 => xlet (t1.2 + 1) fun v11 => rec2 (v10, v11)) fun J7 => xj (fun (q14 : Unit) => J7 0) fun J12 => if (zI (σ (k0 + 2) (zI t1.2).toNat)) = (zI p1) then (m_X4_isIn k0 t1.2 4 p2 σ).bind fun v16 => if (zI v16) = 0 then J12 () else J7 1 else J12 ()) n (0, 0)
set_option maxHeartbeats 4000000 in
set_option maxRecDepth 100000 in
theorem wk_X4_shelvesTaken {X : xX} {Qf : Int → State → Prop} {n : Nat} {k0 : Nat} {p1 : Int} {p2 : Int} {σ : xS} (C : xCx X cX4_shelvesTaken "BakeryNight$Night" (some .int) { frames := 1, cells := 0, slots := 0, locals := 24 } 5) (hQ : ∀ v, Qf v = xQf X WW (some (iV v), σ)) (hk0 : isNt k0) : WO X Qf WW σ 0 [(0, .ref (xqa (xXE X).2.2 k0)), (1, iV p1), (2, iV p2)] [] (m_X4_shelvesTaken n k0 p1 p2 σ) := by
  unfold m_X4_shelvesTaken
  refine x_iconst C (0) dX4_shelvesTaken_0 rfl ?_
  refine x_istore_n (L' := [(3, _), (0, _), (1, _), (2, _)]) C dX4_shelvesTaken_1 rfl (by decide) rfl ?_
  refine x_iconst C (0) dX4_shelvesTaken_2 rfl ?_
  refine x_istore (L' := [(4, _), (3, _), (0, _), (1, _), (2, _)]) C dX4_shelvesTaken_3 (by decide) rfl ?_
  refine x_pick [2, 3, 4, 1, 0] rfl ?_
  refine x_loop (fun t1 : Int × Int => σ) (fun t1 : Int × Int => [(0, .ref (xqa (xXE X).2.2 k0)), (1, iV p1), (2, iV p2), (3, iV t1.1), (4, iV t1.2)]) (fun rec2 hr3 t1 => ?_) n (0, 0)
  refine x_iload C 4 dX4_shelvesTaken_5 rfl ?_
  refine x_aload_n C 0 dX4_shelvesTaken_7 rfl rfl ?_
  refine x_get (v := iV (σ k0 2)) C 2 cls_X4 (at_X4 hk0) (by decide) wd448 rfl rfl dX4_shelvesTaken_8 ?_
  refine x_icmp_ge C 50 rfl rfl dX4_shelvesTaken_11 rfl (fun c4 => x_op c4 ?_) (fun c4 => x_on c4 ?_)
  · refine x_iload_n C 3 dX4_shelvesTaken_50 rfl rfl ?_
    exact x_iretQ C (hQ _) rfl dX4_shelvesTaken_51
  · refine x_iload_n C 3 dX4_shelvesTaken_14 rfl rfl ?_
    refine x_aload_n C 0 dX4_shelvesTaken_15 rfl rfl ?_
    refine x_get (v := .ref (xqa (xXE X).2.2 (k0 + 2))) C 4 cls_X4 (at_X4 hk0) (by decide) wd451 rfl (xV_r (rt_X4_oven hk0 _) rfl) dX4_shelvesTaken_16 ?_
    refine x_iload C 4 dX4_shelvesTaken_19 rfl ?_
    refine x_iald C (at_X4_oven hk0) rfl dX4_shelvesTaken_21 (fun _ => ?_)
    refine x_iload_n C 1 dX4_shelvesTaken_22 rfl rfl ?_
    refine x_join (fun J => ∀ q9 : Int, WO X Qf WW σ 42 [(0, .ref (xqa (xXE X).2.2 k0)), (1, iV p1), (2, iV p2), (4, iV t1.2)] [iV q9, iV t1.1] (J q9)) ?_ ?_
    · intro q9
      refine x_iadd C dX4_shelvesTaken_42 ?_
      refine x_letI (fun v10 => ?_)
      refine x_istore_n (L' := [(3, _), (0, _), (1, _), (2, _), (4, _)]) C dX4_shelvesTaken_43 rfl (by decide) rfl ?_
      refine x_inc C 4 (f := _) dX4_shelvesTaken_44 rfl (by decide) (1) rfl (fun v11 => ?_)
      refine x_reL (L' := [(4, _), (3, _), (0, _), (1, _), (2, _)]) rfl ?_
      refine x_goto C 5 dX4_shelvesTaken_47 rfl ?_
      refine x_pick [2, 3, 4, 1, 0] rfl ?_
      exact hr3 (v10, v11)
    · intro J7 hJ8
      refine x_join (fun J => ∀ q14 : Unit, WO X Qf WW σ 41 [(0, .ref (xqa (xXE X).2.2 k0)), (1, iV p1), (2, iV p2), (4, iV t1.2)] [iV t1.1] (J q14)) ?_ ?_
      · intro q14
        refine x_iconst C (0) dX4_shelvesTaken_41 rfl ?_
        refine x_pick [0, 1, 2, 3] rfl ?_
        exact hJ8 0
      · intro J12 hJ13
        refine x_icmp_ne C 41 rfl rfl dX4_shelvesTaken_23 rfl (fun c15 => x_on c15 ?_) (fun c15 => x_op c15 ?_)
        · refine x_pick [0, 1, 2, 4] rfl ?_
          exact hJ13 ()
        · refine x_aload_n C 0 dX4_shelvesTaken_26 rfl rfl ?_
          refine x_iload C 4 dX4_shelvesTaken_27 rfl ?_
          refine x_iconst C (4) dX4_shelvesTaken_29 rfl ?_
          refine x_iload_n C 2 dX4_shelvesTaken_30 rfl rfl ?_
          refine x_callV C (ct_X4_isIn _ _ k0 t1.2 4 p2 σ hk0) mt_X4_isIn vr_X4_isIn wd682 cls_X4 (at_X4 hk0) rfl ⟨rfl, rfl, Nat.le_of_ble_eq_true rfl, Nat.le_of_ble_eq_true rfl⟩ rfl (Nat.le_of_ble_eq_true rfl) dX4_shelvesTaken_31 (kI (fun v16 => ?_))
          refine x_if_eq C 41 rfl dX4_shelvesTaken_34 rfl (fun c17 => x_op c17 ?_) (fun c17 => x_on c17 ?_)
          · refine x_pick [0, 1, 2, 4] rfl ?_
            exact hJ13 ()
          · refine x_iconst C (1) dX4_shelvesTaken_37 rfl ?_
            refine x_goto C 42 dX4_shelvesTaken_38 rfl ?_
            refine x_pick [0, 1, 2, 4] rfl ?_
            exact hJ8 1
theorem ct_X4_shelvesTaken (l : Launch) (E : xE) (n : Nat) (k0 : Nat) (p1 : Int) (p2 : Int) (σ : xS) (hk0 : isNt k0)  : xMet l E yX4_shelvesTaken cX4_shelvesTaken 5 (some .int) { frames := 1, cells := 0, slots := 0, locals := 24 } [.ref (xqa E.2.2 k0), iV p1, iV p2] WW WW σ (xrI (m_X4_shelvesTaken n k0 p1 p2 σ) σ) := by
  refine xMet.of0 (by decide) (Nat.le_of_ble_eq_true rfl) rfl rfl (fun X hE C => ?_)
  subst hE
  exact xMap (fun v => (some (iV v), σ)) (wk_X4_shelvesTaken C (fun _ => rfl) hk0)
theorem mt_X4_shelvesTaken : xMth yX4_shelvesTaken cX4_shelvesTaken 5 (some .int) 2 := ⟨wd681, wd60, ⟨by decide, by decide, rfl⟩⟩
theorem vr_X4_shelvesTaken : xVir yX4_shelvesTaken := ⟨wd679, wd680⟩
def m_X4_noteWhatEnded (n : Nat) (k0 : Nat) (k1 : Nat) (p2 : Int) (σ : xS) : Option xS :=
  loopF (fun rec2 (t1 : Int × xS) => if (zI (t1.2 k0 2)) ≤ (zI t1.1) then loopF (fun rec6 (t5 : Int × xS) => if (zI (t5.2 k1 7)) ≤ (zI t5.1) then some t5.2 else (m_X4_shelvesTaken n k0 t5.1 p2 t5.2).bind fun v9 => xck (zI t5.1) 4 <| xlet (xput t5.2 (k0 + 18) (zI t5.1).toNat v9) fun s10 => xlet (t5.1 + 1) fun v11 => rec6 (v11, s10)) n (0, t1.2) else xck (zI t1.1) 60 <| xj (fun (q14 : xS) => xck (zI t1.1) 60 <| xj (fun (q17 : xS) => xlet (t1.1 + 1) fun v18 => rec2 (v18, q17)) fun J15 => if (zI (q14 (k0 + 11) (zI t1.1).toNat)) = (zI p2) then if 60 ≤ (zI (q14 k0 13)) then J15 q14 else xck (zI (q14 k0 13)) 60 <| xlet (xput q14 (k0 + 14) (zI (q14 k0 13)).toNat t1.1) fun s21 => xlet (xput s21 k0 13 ((s21 k0 13) + 1)) fun s22 => J15 s22 else J15 q14) fun J12 => if (zI (t1.2 (k0 + 10) (zI t1.1).toNat)) = (zI p2) then if 60 ≤ (zI (t1.2 k0 11)) then J12 t1.2 else xck (zI (t1.2 k0 11)) 60 <| xlet (xput t1.2 (k0 + 13) (zI (t1.2 k0 11)).toNat t1.1) fun s25 => xlet (xput s25 k0 11 ((s25 k0 11) + 1)) fun s26 => J12 s26 else J12 t1.2) n (0, σ)
set_option maxHeartbeats 4000000 in
set_option maxRecDepth 100000 in
theorem wk_X4_noteWhatEnded {X : xX} {Qf : xS → State → Prop} {n : Nat} {k0 : Nat} {k1 : Nat} {p2 : Int} {σ : xS} (C : xCx X cX4_noteWhatEnded "BakeryNight$Night" none { frames := 2, cells := 0, slots := 0, locals := 48 } 4) (hQ : ∀ τ, Qf τ = xQf X WW (none, τ)) (hk0 : isNt k0) (hk1 : isBk k1) : WO X Qf WW σ 0 [(0, .ref (xqa (xXE X).2.2 k0)), (1, .ref (xqa (xXE X).2.2 k1)), (2, iV p2)] [] (m_X4_noteWhatEnded n k0 k1 p2 σ) := by
  unfold m_X4_noteWhatEnded
  refine x_iconst C (0) dX4_noteWhatEnded_0 rfl ?_
  refine x_istore_n (L' := [(3, _), (0, _), (1, _), (2, _)]) C dX4_noteWhatEnded_1 rfl (by decide) rfl ?_
  refine x_pick [1, 2, 3, 0] rfl ?_
  refine x_loop (fun t1 : Int × xS => t1.2) (fun t1 : Int × xS => [(0, .ref (xqa (xXE X).2.2 k0)), (1, .ref (xqa (xXE X).2.2 k1)), (2, iV p2), (3, iV t1.1)]) (fun rec2 hr3 t1 => ?_) n (0, σ)
  refine x_iload_n C 3 dX4_noteWhatEnded_2 rfl rfl ?_
  refine x_aload_n C 0 dX4_noteWhatEnded_3 rfl rfl ?_
  refine x_get (v := iV (t1.2 k0 2)) C 2 cls_X4 (at_X4 hk0) (by decide) wd448 rfl rfl dX4_noteWhatEnded_4 ?_
  refine x_icmp_ge C 94 rfl rfl dX4_noteWhatEnded_7 rfl (fun c4 => x_op c4 ?_) (fun c4 => x_on c4 ?_)
  · refine x_iconst C (0) dX4_noteWhatEnded_94 rfl ?_
    refine x_istore_n (L' := [(3, _), (0, _), (1, _), (2, _)]) C dX4_noteWhatEnded_95 rfl (by decide) rfl ?_
    refine x_pick [1, 2, 3, 0] rfl ?_
    refine x_loop (fun t5 : Int × xS => t5.2) (fun t5 : Int × xS => [(0, .ref (xqa (xXE X).2.2 k0)), (1, .ref (xqa (xXE X).2.2 k1)), (2, iV p2), (3, iV t5.1)]) (fun rec6 hr7 t5 => ?_) n (0, t1.2)
    refine x_iload_n C 3 dX4_noteWhatEnded_96 rfl rfl ?_
    refine x_aload_n C 1 dX4_noteWhatEnded_97 rfl rfl ?_
    refine x_get (v := iV (t5.2 k1 7)) C 7 cls_X1 (at_X1 hk1) (by decide) wd362 rfl rfl dX4_noteWhatEnded_98 ?_
    refine x_icmp_ge C 122 rfl rfl dX4_noteWhatEnded_101 rfl (fun c8 => x_op c8 ?_) (fun c8 => x_on c8 ?_)
    · exact x_vretQ C (hQ _) rfl dX4_noteWhatEnded_122
    · refine x_aload_n C 0 dX4_noteWhatEnded_104 rfl rfl ?_
      refine x_get (v := .ref (xqa (xXE X).2.2 (k0 + 18))) C 17 cls_X4 (at_X4 hk0) (by decide) wd467 rfl (xV_r (rt_X4_taken hk0 _) rfl) dX4_noteWhatEnded_105 ?_
      refine x_iload_n C 3 dX4_noteWhatEnded_108 rfl rfl ?_
      refine x_aload_n C 0 dX4_noteWhatEnded_109 rfl rfl ?_
      refine x_iload_n C 3 dX4_noteWhatEnded_110 rfl rfl ?_
      refine x_iload_n C 2 dX4_noteWhatEnded_111 rfl rfl ?_
      refine x_callV C (ct_X4_shelvesTaken _ _ n k0 t5.1 p2 t5.2 hk0) mt_X4_shelvesTaken vr_X4_shelvesTaken wd678 cls_X4 (at_X4 hk0) rfl ⟨rfl, rfl, Nat.le_of_ble_eq_true rfl, Nat.le_of_ble_eq_true rfl⟩ rfl (Nat.le_of_ble_eq_true rfl) dX4_noteWhatEnded_112 (kI (fun v9 => ?_))
      refine x_iast C (at_X4_taken hk0) rfl dX4_noteWhatEnded_115 (fun _ => ?_)
      refine x_letS (fun s10 => ?_)
      refine x_inc C 3 (f := _) dX4_noteWhatEnded_116 rfl (by decide) (1) rfl (fun v11 => ?_)
      refine x_reL (L' := [(3, _), (0, _), (1, _), (2, _)]) rfl ?_
      refine x_goto C 96 dX4_noteWhatEnded_119 rfl ?_
      refine x_pick [1, 2, 3, 0] rfl ?_
      exact hr7 (v11, s10)
  · refine x_aload_n C 0 dX4_noteWhatEnded_10 rfl rfl ?_
    refine x_get (v := .ref (xqa (xXE X).2.2 (k0 + 10))) C 6 cls_X4 (at_X4 hk0) (by decide) wd455 rfl (xV_r (rt_X4_risen hk0 _) rfl) dX4_noteWhatEnded_11 ?_
    refine x_iload_n C 3 dX4_noteWhatEnded_14 rfl rfl ?_
    refine x_iald C (at_X4_risen hk0) rfl dX4_noteWhatEnded_15 (fun _ => ?_)
    refine x_iload_n C 2 dX4_noteWhatEnded_16 rfl rfl ?_
    refine x_join (fun J => ∀ q14 : xS, WO X Qf WW q14 49 [(0, .ref (xqa (xXE X).2.2 k0)), (1, .ref (xqa (xXE X).2.2 k1)), (2, iV p2), (3, iV t1.1)] [] (J q14)) ?_ ?_
    · intro q14
      refine x_aload_n C 0 dX4_noteWhatEnded_49 rfl rfl ?_
      refine x_get (v := .ref (xqa (xXE X).2.2 (k0 + 11))) C 7 cls_X4 (at_X4 hk0) (by decide) wd456 rfl (xV_r (rt_X4_proofed hk0 _) rfl) dX4_noteWhatEnded_50 ?_
      refine x_iload_n C 3 dX4_noteWhatEnded_53 rfl rfl ?_
      refine x_iald C (at_X4_proofed hk0) rfl dX4_noteWhatEnded_54 (fun _ => ?_)
      refine x_iload_n C 2 dX4_noteWhatEnded_55 rfl rfl ?_
      refine x_join (fun J => ∀ q17 : xS, WO X Qf WW q17 88 [(0, .ref (xqa (xXE X).2.2 k0)), (1, .ref (xqa (xXE X).2.2 k1)), (2, iV p2), (3, iV t1.1)] [] (J q17)) ?_ ?_
      · intro q17
        refine x_inc C 3 (f := _) dX4_noteWhatEnded_88 rfl (by decide) (1) rfl (fun v18 => ?_)
        refine x_reL (L' := [(3, _), (0, _), (1, _), (2, _)]) rfl ?_
        refine x_goto C 2 dX4_noteWhatEnded_91 rfl ?_
        refine x_pick [1, 2, 3, 0] rfl ?_
        exact hr3 (v18, q17)
      · intro J15 hJ16
        refine x_icmp_ne C 88 rfl rfl dX4_noteWhatEnded_56 rfl (fun c19 => x_on c19 ?_) (fun c19 => x_op c19 ?_)
        · refine x_pick [0, 1, 2, 3] rfl ?_
          exact hJ16 q14
        · refine x_aload_n C 0 dX4_noteWhatEnded_59 rfl rfl ?_
          refine x_get (v := iV (q14 k0 13)) C 13 cls_X4 (at_X4 hk0) (by decide) wd462 rfl rfl dX4_noteWhatEnded_60 ?_
          refine x_bipush C (60) dX4_noteWhatEnded_63 rfl ?_
          refine x_icmp_ge C 88 rfl (zIl _ rfl) dX4_noteWhatEnded_65 rfl (fun c20 => x_op c20 ?_) (fun c20 => x_on c20 ?_)
          · refine x_pick [0, 1, 2, 3] rfl ?_
            exact hJ16 q14
          · refine x_aload_n C 0 dX4_noteWhatEnded_68 rfl rfl ?_
            refine x_get (v := .ref (xqa (xXE X).2.2 (k0 + 14))) C 12 cls_X4 (at_X4 hk0) (by decide) wd461 rfl (xV_r (rt_X4_toBake hk0 _) rfl) dX4_noteWhatEnded_69 ?_
            refine x_aload_n C 0 dX4_noteWhatEnded_72 rfl rfl ?_
            refine x_get (v := iV (q14 k0 13)) C 13 cls_X4 (at_X4 hk0) (by decide) wd462 rfl rfl dX4_noteWhatEnded_73 ?_
            refine x_iload_n C 3 dX4_noteWhatEnded_76 rfl rfl ?_
            refine x_iast C (at_X4_toBake hk0) rfl dX4_noteWhatEnded_77 (fun _ => ?_)
            refine x_letS (fun s21 => ?_)
            refine x_aload_n C 0 dX4_noteWhatEnded_78 rfl rfl ?_
            refine x_dup C dX4_noteWhatEnded_79 rfl ?_
            refine x_get (v := iV (s21 k0 13)) C 13 cls_X4 (at_X4 hk0) (by decide) wd462 rfl rfl dX4_noteWhatEnded_80 ?_
            refine x_iconst C (1) dX4_noteWhatEnded_83 rfl ?_
            refine x_iadd C dX4_noteWhatEnded_84 ?_
            refine x_put C 13 ((s21 k0 13) + 1) cls_X4 (at_X4 hk0) (by decide) wd462 rfl rfl rfl rfl (xV_pI rfl) dX4_noteWhatEnded_85 ?_
            refine x_letS (fun s22 => ?_)
            refine x_pick [0, 1, 2, 3] rfl ?_
            exact hJ16 s22
    · intro J12 hJ13
      refine x_icmp_ne C 49 rfl rfl dX4_noteWhatEnded_17 rfl (fun c23 => x_on c23 ?_) (fun c23 => x_op c23 ?_)
      · refine x_pick [0, 1, 2, 3] rfl ?_
        exact hJ13 t1.2
      · refine x_aload_n C 0 dX4_noteWhatEnded_20 rfl rfl ?_
        refine x_get (v := iV (t1.2 k0 11)) C 11 cls_X4 (at_X4 hk0) (by decide) wd460 rfl rfl dX4_noteWhatEnded_21 ?_
        refine x_bipush C (60) dX4_noteWhatEnded_24 rfl ?_
        refine x_icmp_ge C 49 rfl (zIl _ rfl) dX4_noteWhatEnded_26 rfl (fun c24 => x_op c24 ?_) (fun c24 => x_on c24 ?_)
        · refine x_pick [0, 1, 2, 3] rfl ?_
          exact hJ13 t1.2
        · refine x_aload_n C 0 dX4_noteWhatEnded_29 rfl rfl ?_
          refine x_get (v := .ref (xqa (xXE X).2.2 (k0 + 13))) C 10 cls_X4 (at_X4 hk0) (by decide) wd459 rfl (xV_r (rt_X4_toShape hk0 _) rfl) dX4_noteWhatEnded_30 ?_
          refine x_aload_n C 0 dX4_noteWhatEnded_33 rfl rfl ?_
          refine x_get (v := iV (t1.2 k0 11)) C 11 cls_X4 (at_X4 hk0) (by decide) wd460 rfl rfl dX4_noteWhatEnded_34 ?_
          refine x_iload_n C 3 dX4_noteWhatEnded_37 rfl rfl ?_
          refine x_iast C (at_X4_toShape hk0) rfl dX4_noteWhatEnded_38 (fun _ => ?_)
          refine x_letS (fun s25 => ?_)
          refine x_aload_n C 0 dX4_noteWhatEnded_39 rfl rfl ?_
          refine x_dup C dX4_noteWhatEnded_40 rfl ?_
          refine x_get (v := iV (s25 k0 11)) C 11 cls_X4 (at_X4 hk0) (by decide) wd460 rfl rfl dX4_noteWhatEnded_41 ?_
          refine x_iconst C (1) dX4_noteWhatEnded_44 rfl ?_
          refine x_iadd C dX4_noteWhatEnded_45 ?_
          refine x_put C 11 ((s25 k0 11) + 1) cls_X4 (at_X4 hk0) (by decide) wd460 rfl rfl rfl rfl (xV_pI rfl) dX4_noteWhatEnded_46 ?_
          refine x_letS (fun s26 => ?_)
          refine x_pick [0, 1, 2, 3] rfl ?_
          exact hJ13 s26
theorem ct_X4_noteWhatEnded (l : Launch) (E : xE) (n : Nat) (k0 : Nat) (k1 : Nat) (p2 : Int) (σ : xS) (hk0 : isNt k0) (hk1 : isBk k1)  : xMet l E yX4_noteWhatEnded cX4_noteWhatEnded 4 none { frames := 2, cells := 0, slots := 0, locals := 48 } [.ref (xqa E.2.2 k0), .ref (xqa E.2.2 k1), iV p2] WW WW σ (xrV (m_X4_noteWhatEnded n k0 k1 p2 σ)) := by
  refine xMet.of0 (by decide) (Nat.le_of_ble_eq_true rfl) rfl rfl (fun X hE C => ?_)
  subst hE
  exact xMap (fun q => (none, q)) (wk_X4_noteWhatEnded C (fun _ => rfl) hk0 hk1)
theorem mt_X4_noteWhatEnded : xMth yX4_noteWhatEnded cX4_noteWhatEnded 4 none 2 := ⟨wd677, wd60, ⟨by decide, by decide, rfl⟩⟩
theorem vr_X4_noteWhatEnded : xVir yX4_noteWhatEnded := ⟨wd676, wd5⟩
def m_X4_spoilWaiting (n : Nat) (k0 : Nat) (k1 : Nat) (p2 : Int) (σ : xS) : Option xS :=
  loopF (fun rec2 (t1 : Int × Int × xS) => if (zI (t1.2.2 k0 13)) ≤ (zI t1.2.1) then xlet (xput t1.2.2 k0 13 t1.1) fun s5 => some s5 else xck (zI t1.2.1) 60 <| xlet (t1.2.2 (k0 + 14) (zI t1.2.1).toNat) fun v6 => xck (zI v6) 60 <| xck (zI v6) 60 <| xck (zI (t1.2.2 (k0 + 1) (zI v6).toNat)) 6 <| xj (fun (q10 : Int × xS) => xlet (t1.2.1 + 1) fun v11 => rec2 (q10.1, v11, q10.2)) fun J8 => if (zI (p2 - (t1.2.2 (k0 + 11) (zI v6).toNat))) ≤ (zI (t1.2.2 (k1 + 2 + (zI (t1.2.2 (k0 + 1) (zI v6).toNat)).toNat) 4)) then xck (zI t1.1) 60 <| xlet (xput t1.2.2 (k0 + 14) (zI t1.1).toNat v6) fun s13 => xlet (t1.1 + 1) fun v14 => J8 (v14, s13) else xck (zI v6) 60 <| xlet (xput t1.2.2 (k0 + 12) (zI v6).toNat p2) fun s15 => J8 (t1.1, s15)) n (0, 0, σ)
set_option maxHeartbeats 4000000 in
set_option maxRecDepth 100000 in
theorem wk_X4_spoilWaiting {X : xX} {Qf : xS → State → Prop} {n : Nat} {k0 : Nat} {k1 : Nat} {p2 : Int} {σ : xS} (C : xCx X cX4_spoilWaiting "BakeryNight$Night" none { frames := 0, cells := 0, slots := 0, locals := 0 } 6) (hQ : ∀ τ, Qf τ = xQf X WW (none, τ)) (hk0 : isNt k0) (hk1 : isBk k1) : WO X Qf WW σ 0 [(0, .ref (xqa (xXE X).2.2 k0)), (1, .ref (xqa (xXE X).2.2 k1)), (2, iV p2)] [] (m_X4_spoilWaiting n k0 k1 p2 σ) := by
  unfold m_X4_spoilWaiting
  refine x_iconst C (0) dX4_spoilWaiting_0 rfl ?_
  refine x_istore_n (L' := [(3, _), (0, _), (1, _), (2, _)]) C dX4_spoilWaiting_1 rfl (by decide) rfl ?_
  refine x_iconst C (0) dX4_spoilWaiting_2 rfl ?_
  refine x_istore (L' := [(4, _), (3, _), (0, _), (1, _), (2, _)]) C dX4_spoilWaiting_3 (by decide) rfl ?_
  refine x_pick [2, 3, 4, 1, 0] rfl ?_
  refine x_loop (fun t1 : Int × Int × xS => t1.2.2) (fun t1 : Int × Int × xS => [(0, .ref (xqa (xXE X).2.2 k0)), (1, .ref (xqa (xXE X).2.2 k1)), (2, iV p2), (3, iV t1.1), (4, iV t1.2.1)]) (fun rec2 hr3 t1 => ?_) n (0, 0, σ)
  refine x_iload C 4 dX4_spoilWaiting_5 rfl ?_
  refine x_aload_n C 0 dX4_spoilWaiting_7 rfl rfl ?_
  refine x_get (v := iV (t1.2.2 k0 13)) C 13 cls_X4 (at_X4 hk0) (by decide) wd462 rfl rfl dX4_spoilWaiting_8 ?_
  refine x_icmp_ge C 78 rfl rfl dX4_spoilWaiting_11 rfl (fun c4 => x_op c4 ?_) (fun c4 => x_on c4 ?_)
  · refine x_aload_n C 0 dX4_spoilWaiting_78 rfl rfl ?_
    refine x_iload_n C 3 dX4_spoilWaiting_79 rfl rfl ?_
    refine x_put C 13 t1.1 cls_X4 (at_X4 hk0) (by decide) wd462 rfl rfl rfl rfl (xV_pI rfl) dX4_spoilWaiting_80 ?_
    refine x_letS (fun s5 => ?_)
    exact x_vretQ C (hQ _) rfl dX4_spoilWaiting_83
  · refine x_aload_n C 0 dX4_spoilWaiting_14 rfl rfl ?_
    refine x_get (v := .ref (xqa (xXE X).2.2 (k0 + 14))) C 12 cls_X4 (at_X4 hk0) (by decide) wd461 rfl (xV_r (rt_X4_toBake hk0 _) rfl) dX4_spoilWaiting_15 ?_
    refine x_iload C 4 dX4_spoilWaiting_18 rfl ?_
    refine x_iald C (at_X4_toBake hk0) rfl dX4_spoilWaiting_20 (fun _ => ?_)
    refine x_letI (fun v6 => ?_)
    refine x_istore (L' := [(5, _), (0, _), (1, _), (2, _), (3, _), (4, _)]) C dX4_spoilWaiting_21 (by decide) rfl ?_
    refine x_iload_n C 3 dX4_spoilWaiting_23 rfl rfl ?_
    refine x_aload_n C 1 dX4_spoilWaiting_24 rfl rfl ?_
    refine x_get (v := .ref (xqa (xXE X).2.2 (k0 + 11))) C 7 cls_X4 (at_X4 hk0) (by decide) wd456 rfl (xV_r (rt_X4_proofed hk0 _) rfl) dX4_spoilWaiting_25 ?_
    refine x_iload C 0 dX4_spoilWaiting_28 rfl ?_
    refine x_iald C (at_X4_proofed hk0) rfl dX4_spoilWaiting_30 (fun _ => ?_)
    refine x_isub C dX4_spoilWaiting_31 ?_
    refine x_aload_n C 2 dX4_spoilWaiting_32 rfl rfl ?_
    refine x_get (v := .ref (xqa (xXE X).2.2 (k1 + 1))) C 4 cls_X1 (at_X1 hk1) (by decide) wd350 rfl (xV_r (rt_X1_doughs hk1 _) rfl) dX4_spoilWaiting_33 ?_
    refine x_aload_n C 1 dX4_spoilWaiting_36 rfl rfl ?_
    refine x_get (v := .ref (xqa (xXE X).2.2 (k0 + 1))) C 3 cls_X4 (at_X4 hk0) (by decide) wd449 rfl (xV_r (rt_X4_dough hk0 _) rfl) dX4_spoilWaiting_37 ?_
    refine x_iload C 0 dX4_spoilWaiting_40 rfl ?_
    refine x_iald C (at_X4_dough hk0) rfl dX4_spoilWaiting_42 (fun _ => ?_)
    refine x_aald C (at_X1_doughs hk1) (by decide) rfl (fun h7 => rl_X1_doughs hk1 _ h7) dX4_spoilWaiting_43 (fun h7 => ?_)
    refine x_get (v := iV (t1.2.2 (k1 + 2 + (zI (t1.2.2 (k0 + 1) (zI v6).toNat)).toNat) 4)) C 4 cls_X2 (el_X1_doughs hk1 h7) (by decide) wd170 rfl rfl dX4_spoilWaiting_44 ?_
    refine x_join (fun J => ∀ q10 : Int × xS, WO X Qf WW q10.2 72 [(0, .ref (xqa (xXE X).2.2 k0)), (1, .ref (xqa (xXE X).2.2 k1)), (2, iV p2), (3, iV q10.1), (4, iV t1.2.1)] [] (J q10)) ?_ ?_
    · intro q10
      refine x_inc C 4 (f := _) dX4_spoilWaiting_72 rfl (by decide) (1) rfl (fun v11 => ?_)
      refine x_reL (L' := [(4, _), (0, _), (1, _), (2, _), (3, _)]) rfl ?_
      refine x_goto C 5 dX4_spoilWaiting_75 rfl ?_
      refine x_pick [1, 2, 3, 4, 0] rfl ?_
      exact hr3 (q10.1, v11, q10.2)
    · intro J8 hJ9
      refine x_icmp_le C 61 rfl rfl dX4_spoilWaiting_47 rfl (fun c12 => x_op c12 ?_) (fun c12 => x_on c12 ?_)
      · refine x_aload_n C 1 dX4_spoilWaiting_61 rfl rfl ?_
        refine x_get (v := .ref (xqa (xXE X).2.2 (k0 + 14))) C 12 cls_X4 (at_X4 hk0) (by decide) wd461 rfl (xV_r (rt_X4_toBake hk0 _) rfl) dX4_spoilWaiting_62 ?_
        refine x_iload_n C 4 dX4_spoilWaiting_65 rfl rfl ?_
        refine x_iload C 0 dX4_spoilWaiting_66 rfl ?_
        refine x_iast C (at_X4_toBake hk0) rfl dX4_spoilWaiting_68 (fun _ => ?_)
        refine x_letS (fun s13 => ?_)
        refine x_inc C 4 (f := _) dX4_spoilWaiting_69 rfl (by decide) (1) rfl (fun v14 => ?_)
        refine x_reL (L' := [(3, _), (5, _), (0, _), (1, _), (2, _), (4, _)]) rfl ?_
        refine x_pick [2, 3, 4, 0, 5] rfl ?_
        exact hJ9 (v14, s13)
      · refine x_aload_n C 1 dX4_spoilWaiting_50 rfl rfl ?_
        refine x_get (v := .ref (xqa (xXE X).2.2 (k0 + 12))) C 8 cls_X4 (at_X4 hk0) (by decide) wd457 rfl (xV_r (rt_X4_spoiled hk0 _) rfl) dX4_spoilWaiting_51 ?_
        refine x_iload C 0 dX4_spoilWaiting_54 rfl ?_
        refine x_iload_n C 3 dX4_spoilWaiting_56 rfl rfl ?_
        refine x_iast C (at_X4_spoiled hk0) rfl dX4_spoilWaiting_57 (fun _ => ?_)
        refine x_letS (fun s15 => ?_)
        refine x_goto C 72 dX4_spoilWaiting_58 rfl ?_
        refine x_pick [1, 2, 3, 4, 5] rfl ?_
        exact hJ9 (t1.1, s15)
theorem ct_X4_spoilWaiting (l : Launch) (E : xE) (n : Nat) (k0 : Nat) (k1 : Nat) (p2 : Int) (σ : xS) (hk0 : isNt k0) (hk1 : isBk k1)  : xMet l E yX4_spoilWaiting cX4_spoilWaiting 6 none { frames := 0, cells := 0, slots := 0, locals := 0 } [.ref (xqa E.2.2 k0), .ref (xqa E.2.2 k1), iV p2] WW WW σ (xrV (m_X4_spoilWaiting n k0 k1 p2 σ)) := by
  refine xMet.of0 (by decide) (Nat.le_of_ble_eq_true rfl) rfl rfl (fun X hE C => ?_)
  subst hE
  exact xMap (fun q => (none, q)) (wk_X4_spoilWaiting C (fun _ => rfl) hk0 hk1)
theorem mt_X4_spoilWaiting : xMth yX4_spoilWaiting cX4_spoilWaiting 6 none 2 := ⟨wd689, wd60, ⟨by decide, by decide, rfl⟩⟩
theorem vr_X4_spoilWaiting : xVir yX4_spoilWaiting := ⟨wd688, wd7⟩
def m_X4_freeOven (n : Nat) (k0 : Nat) (k1 : Nat) (p2 : Int) (p3 : Int) (σ : xS) : Option Int :=
  loopF (fun rec2 (t1 : Int) => if (zI (σ k1 7)) ≤ (zI t1) then some (-1) else xck (zI t1) 4 <| xj (fun (q8 : Unit) => xlet (t1 + 1) fun v9 => rec2 v9) fun J6 => if (zI (σ (k1 + 9 + (zI t1).toNat) 3)) = 0 then xck (zI t1) 4 <| if (zI p3) < (zI (σ (k0 + 16) (zI t1).toNat)) then J6 () else xck (zI t1) 4 <| if (zI (σ (k0 + 15) (zI t1).toNat)) = (zI p2) then xck (zI t1) 4 <| if (zI (σ (k1 + 9 + (zI t1).toNat) 0)) ≤ (zI (σ (k0 + 18) (zI t1).toNat)) then J6 () else some t1 else J6 () else J6 ()) n 0
set_option maxHeartbeats 4000000 in
set_option maxRecDepth 100000 in
theorem wk_X4_freeOven {X : xX} {Qf : Int → State → Prop} {n : Nat} {k0 : Nat} {k1 : Nat} {p2 : Int} {p3 : Int} {σ : xS} (C : xCx X cX4_freeOven "BakeryNight$Night" (some .int) { frames := 0, cells := 0, slots := 0, locals := 0 } 6) (hQ : ∀ v, Qf v = xQf X WW (some (iV v), σ)) (hk0 : isNt k0) (hk1 : isBk k1) : WO X Qf WW σ 0 [(0, .ref (xqa (xXE X).2.2 k0)), (1, .ref (xqa (xXE X).2.2 k1)), (2, iV p2), (3, iV p3)] [] (m_X4_freeOven n k0 k1 p2 p3 σ) := by
  unfold m_X4_freeOven
  refine x_iconst C (0) dX4_freeOven_0 rfl ?_
  refine x_istore (L' := [(4, _), (0, _), (1, _), (2, _), (3, _)]) C dX4_freeOven_1 (by decide) rfl ?_
  refine x_pick [1, 2, 3, 4, 0] rfl ?_
  refine x_loop (fun t1 : Int => σ) (fun t1 : Int => [(0, .ref (xqa (xXE X).2.2 k0)), (1, .ref (xqa (xXE X).2.2 k1)), (2, iV p2), (3, iV p3), (4, iV t1)]) (fun rec2 hr3 t1 => ?_) n 0
  refine x_iload C 4 dX4_freeOven_3 rfl ?_
  refine x_aload_n C 1 dX4_freeOven_5 rfl rfl ?_
  refine x_get (v := iV (σ k1 7)) C 7 cls_X1 (at_X1 hk1) (by decide) wd362 rfl rfl dX4_freeOven_6 ?_
  refine x_icmp_ge C 75 rfl rfl dX4_freeOven_9 rfl (fun c4 => x_op c4 ?_) (fun c4 => x_on c4 ?_)
  · refine x_iconst C (-1) dX4_freeOven_75 rfl ?_
    exact x_iretQ C (hQ _) rfl dX4_freeOven_76
  · refine x_aload_n C 1 dX4_freeOven_12 rfl rfl ?_
    refine x_get (v := .ref (xqa (xXE X).2.2 (k1 + 8))) C 6 cls_X1 (at_X1 hk1) (by decide) wd357 rfl (xV_r (rt_X1_ovens hk1 _) rfl) dX4_freeOven_13 ?_
    refine x_iload C 4 dX4_freeOven_16 rfl ?_
    refine x_aald C (at_X1_ovens hk1) (by decide) rfl (fun h5 => rl_X1_ovens hk1 _ h5) dX4_freeOven_18 (fun h5 => ?_)
    refine x_astore (L' := [(5, _), (0, _), (1, _), (2, _), (3, _), (4, _)]) C dX4_freeOven_19 (by decide) rfl ?_
    refine x_aload C 0 dX4_freeOven_21 rfl ?_
    refine x_get (v := iV (σ (k1 + 9 + (zI t1).toNat) 3)) C 3 cls_X6 (el_X1_ovens hk1 h5) (by decide) wd219 rfl rfl dX4_freeOven_23 ?_
    refine x_join (fun J => ∀ q8 : Unit, WO X Qf WW σ 69 [(0, .ref (xqa (xXE X).2.2 k0)), (1, .ref (xqa (xXE X).2.2 k1)), (2, iV p2), (3, iV p3), (4, iV t1)] [] (J q8)) ?_ ?_
    · intro q8
      refine x_inc C 4 (f := _) dX4_freeOven_69 rfl (by decide) (1) rfl (fun v9 => ?_)
      refine x_reL (L' := [(4, _), (0, _), (1, _), (2, _), (3, _)]) rfl ?_
      refine x_goto C 3 dX4_freeOven_72 rfl ?_
      refine x_pick [1, 2, 3, 4, 0] rfl ?_
      exact hr3 v9
    · intro J6 hJ7
      refine x_if_ne C 69 rfl dX4_freeOven_26 rfl (fun c10 => x_on c10 ?_) (fun c10 => x_op c10 ?_)
      · refine x_pick [1, 2, 3, 4, 5] rfl ?_
        exact hJ7 ()
      · refine x_aload_n C 1 dX4_freeOven_29 rfl rfl ?_
        refine x_get (v := .ref (xqa (xXE X).2.2 (k0 + 16))) C 15 cls_X4 (at_X4 hk0) (by decide) wd464 rfl (xV_r (rt_X4_steady hk0 _) rfl) dX4_freeOven_30 ?_
        refine x_iload C 5 dX4_freeOven_33 rfl ?_
        refine x_iald C (at_X4_steady hk0) rfl dX4_freeOven_35 (fun _ => ?_)
        refine x_iload_n C 4 dX4_freeOven_36 rfl rfl ?_
        refine x_icmp_gt C 69 rfl rfl dX4_freeOven_37 rfl (fun c11 => x_op c11 ?_) (fun c11 => x_on c11 ?_)
        · refine x_pick [1, 2, 3, 4, 5] rfl ?_
          exact hJ7 ()
        · refine x_aload_n C 1 dX4_freeOven_40 rfl rfl ?_
          refine x_get (v := .ref (xqa (xXE X).2.2 (k0 + 15))) C 14 cls_X4 (at_X4 hk0) (by decide) wd463 rfl (xV_r (rt_X4_heat hk0 _) rfl) dX4_freeOven_41 ?_
          refine x_iload C 5 dX4_freeOven_44 rfl ?_
          refine x_iald C (at_X4_heat hk0) rfl dX4_freeOven_46 (fun _ => ?_)
          refine x_iload_n C 3 dX4_freeOven_47 rfl rfl ?_
          refine x_icmp_ne C 69 rfl rfl dX4_freeOven_48 rfl (fun c12 => x_on c12 ?_) (fun c12 => x_op c12 ?_)
          · refine x_pick [1, 2, 3, 4, 5] rfl ?_
            exact hJ7 ()
          · refine x_aload_n C 1 dX4_freeOven_51 rfl rfl ?_
            refine x_get (v := .ref (xqa (xXE X).2.2 (k0 + 18))) C 17 cls_X4 (at_X4 hk0) (by decide) wd467 rfl (xV_r (rt_X4_taken hk0 _) rfl) dX4_freeOven_52 ?_
            refine x_iload C 5 dX4_freeOven_55 rfl ?_
            refine x_iald C (at_X4_taken hk0) rfl dX4_freeOven_57 (fun _ => ?_)
            refine x_aload C 0 dX4_freeOven_58 rfl ?_
            refine x_get (v := iV (σ (k1 + 9 + (zI t1).toNat) 0)) C 0 cls_X6 (el_X1_ovens hk1 h5) (by decide) wd211 rfl rfl dX4_freeOven_60 ?_
            refine x_icmp_ge C 69 rfl rfl dX4_freeOven_63 rfl (fun c13 => x_op c13 ?_) (fun c13 => x_on c13 ?_)
            · refine x_pick [1, 2, 3, 4, 5] rfl ?_
              exact hJ7 ()
            · refine x_iload C 5 dX4_freeOven_66 rfl ?_
              exact x_iretQ C (hQ _) rfl dX4_freeOven_68
theorem ct_X4_freeOven (l : Launch) (E : xE) (n : Nat) (k0 : Nat) (k1 : Nat) (p2 : Int) (p3 : Int) (σ : xS) (hk0 : isNt k0) (hk1 : isBk k1)  : xMet l E yX4_freeOven cX4_freeOven 6 (some .int) { frames := 0, cells := 0, slots := 0, locals := 0 } [.ref (xqa E.2.2 k0), .ref (xqa E.2.2 k1), iV p2, iV p3] WW WW σ (xrI (m_X4_freeOven n k0 k1 p2 p3 σ) σ) := by
  refine xMet.of0 (by decide) (Nat.le_of_ble_eq_true rfl) rfl rfl (fun X hE C => ?_)
  subst hE
  exact xMap (fun v => (some (iV v), σ)) (wk_X4_freeOven C (fun _ => rfl) hk0 hk1)
theorem mt_X4_freeOven : xMth yX4_freeOven cX4_freeOven 6 (some .int) 3 := ⟨wd697, wd60, ⟨by decide, by decide, rfl⟩⟩
theorem vr_X4_freeOven : xVir yX4_freeOven := ⟨wd696, wd9⟩
def m_X4_changeAnOven (n : Nat) (k0 : Nat) (k1 : Nat) (p2 : Int) (p3 : Int) (σ : xS) : Option xS :=
  xlet (-1) fun v1 => loopF (fun rec3 (t2 : Int × Int × Int) => if (zI (σ k1 7)) ≤ (zI t2.2.2) then xj (fun (q8 : xS) => some q8) fun J6 => if (zI t2.1) = (-1) then J6 σ else xck (zI t2.1) 4 <| xlet (xput σ (k0 + 15) (zI t2.1).toNat p2) fun s10 => xck (zI t2.1) 4 <| xlet (xput s10 (k0 + 16) (zI t2.1).toNat (p3 + t2.2.1)) fun s11 => xck (zI t2.1) 4 <| xck (zI t2.1) 4 <| xlet (xput s11 (k0 + 17) (zI t2.1).toNat ((s11 (k0 + 17) (zI t2.1).toNat) + t2.2.1)) fun s12 => J6 s12 else xck (zI t2.2.2) 4 <| xj (fun (q16 : Int × Int) => xlet (t2.2.2 + 1) fun v17 => rec3 (q16.1, q16.2, v17)) fun J14 => if (zI (σ (k0 + 16) (zI t2.2.2).toNat)) ≤ (zI p3) then xck (zI t2.2.2) 4 <| if (zI (σ (k1 + 9 + (zI t2.2.2).toNat) 3)) = 0 then xck (zI t2.2.2) 4 <| if (zI (σ (k0 + 18) (zI t2.2.2).toNat)) = 0 then xck (zI t2.2.2) 4 <| xck (zI t2.2.2) 4 <| (m_X12_dividedUp (zabs ((σ (k0 + 15) (zI t2.2.2).toNat) - p2)) (σ (k1 + 9 + (zI t2.2.2).toNat) 2) σ).bind fun v23 => xj (fun (q26 : Unit) => J14 (t2.2.2, v23)) fun J24 => if (zI t2.1) = (-1) then J24 () else if (zI t2.2.1) ≤ (zI v23) then J14 (t2.1, t2.2.1) else J24 () else J14 (t2.1, t2.2.1) else J14 (t2.1, t2.2.1) else xck (zI t2.2.2) 4 <| if (zI (σ (k0 + 15) (zI t2.2.2).toNat)) = (zI p2) then some σ else J14 (t2.1, t2.2.1)) n (v1, 0, 0)
set_option maxHeartbeats 4000000 in
set_option maxRecDepth 100000 in
theorem wk_X4_changeAnOven {X : xX} {Qf : xS → State → Prop} {n : Nat} {k0 : Nat} {k1 : Nat} {p2 : Int} {p3 : Int} {σ : xS} (C : xCx X cX4_changeAnOven "BakeryNight$Night" none { frames := 1, cells := 0, slots := 0, locals := 21 } 8) (hQ : ∀ τ, Qf τ = xQf X WW (none, τ)) (hk0 : isNt k0) (hk1 : isBk k1) : WO X Qf WW σ 0 [(0, .ref (xqa (xXE X).2.2 k0)), (1, .ref (xqa (xXE X).2.2 k1)), (2, iV p2), (3, iV p3)] [] (m_X4_changeAnOven n k0 k1 p2 p3 σ) := by
  unfold m_X4_changeAnOven
  refine x_iconst C (-1) dX4_changeAnOven_0 rfl ?_
  refine x_letI (fun v1 => ?_)
  refine x_istore (L' := [(4, _), (0, _), (1, _), (2, _), (3, _)]) C dX4_changeAnOven_1 (by decide) rfl ?_
  refine x_iconst C (0) dX4_changeAnOven_3 rfl ?_
  refine x_istore (L' := [(5, _), (4, _), (0, _), (1, _), (2, _), (3, _)]) C dX4_changeAnOven_4 (by decide) rfl ?_
  refine x_iconst C (0) dX4_changeAnOven_6 rfl ?_
  refine x_istore (L' := [(6, _), (5, _), (4, _), (0, _), (1, _), (2, _), (3, _)]) C dX4_changeAnOven_7 (by decide) rfl ?_
  refine x_pick [3, 4, 5, 6, 2, 1, 0] rfl ?_
  refine x_loop (fun t2 : Int × Int × Int => σ) (fun t2 : Int × Int × Int => [(0, .ref (xqa (xXE X).2.2 k0)), (1, .ref (xqa (xXE X).2.2 k1)), (2, iV p2), (3, iV p3), (4, iV t2.1), (5, iV t2.2.1), (6, iV t2.2.2)]) (fun rec3 hr4 t2 => ?_) n (v1, 0, 0)
  refine x_iload C 6 dX4_changeAnOven_9 rfl ?_
  refine x_aload_n C 1 dX4_changeAnOven_11 rfl rfl ?_
  refine x_get (v := iV (σ k1 7)) C 7 cls_X1 (at_X1 hk1) (by decide) wd362 rfl rfl dX4_changeAnOven_12 ?_
  refine x_icmp_ge C 118 rfl rfl dX4_changeAnOven_15 rfl (fun c5 => x_op c5 ?_) (fun c5 => x_on c5 ?_)
  · refine x_iload C 4 dX4_changeAnOven_118 rfl ?_
    refine x_iconst C (-1) dX4_changeAnOven_120 rfl ?_
    refine x_join (fun J => ∀ q8 : xS, WO X Qf WW q8 155 [] [] (J q8)) ?_ ?_
    · intro q8
      exact x_vretQ C (hQ _) rfl dX4_changeAnOven_155
    · intro J6 hJ7
      refine x_icmp_eq C 155 rfl (zIl _ rfl) dX4_changeAnOven_121 rfl (fun c9 => x_op c9 ?_) (fun c9 => x_on c9 ?_)
      · refine x_pick [] rfl ?_
        exact hJ7 σ
      · refine x_aload_n C 0 dX4_changeAnOven_124 rfl rfl ?_
        refine x_get (v := .ref (xqa (xXE X).2.2 (k0 + 15))) C 14 cls_X4 (at_X4 hk0) (by decide) wd463 rfl (xV_r (rt_X4_heat hk0 _) rfl) dX4_changeAnOven_125 ?_
        refine x_iload C 4 dX4_changeAnOven_128 rfl ?_
        refine x_iload_n C 2 dX4_changeAnOven_130 rfl rfl ?_
        refine x_iast C (at_X4_heat hk0) rfl dX4_changeAnOven_131 (fun _ => ?_)
        refine x_letS (fun s10 => ?_)
        refine x_aload_n C 0 dX4_changeAnOven_132 rfl rfl ?_
        refine x_get (v := .ref (xqa (xXE X).2.2 (k0 + 16))) C 15 cls_X4 (at_X4 hk0) (by decide) wd464 rfl (xV_r (rt_X4_steady hk0 _) rfl) dX4_changeAnOven_133 ?_
        refine x_iload C 4 dX4_changeAnOven_136 rfl ?_
        refine x_iload_n C 3 dX4_changeAnOven_138 rfl rfl ?_
        refine x_iload C 5 dX4_changeAnOven_139 rfl ?_
        refine x_iadd C dX4_changeAnOven_141 ?_
        refine x_iast C (at_X4_steady hk0) rfl dX4_changeAnOven_142 (fun _ => ?_)
        refine x_letS (fun s11 => ?_)
        refine x_aload_n C 0 dX4_changeAnOven_143 rfl rfl ?_
        refine x_get (v := .ref (xqa (xXE X).2.2 (k0 + 17))) C 16 cls_X4 (at_X4 hk0) (by decide) wd465 rfl (xV_r (rt_X4_changed hk0 _) rfl) dX4_changeAnOven_144 ?_
        refine x_iload C 4 dX4_changeAnOven_147 rfl ?_
        refine x_dup2 C dX4_changeAnOven_149 rfl rfl ?_
        refine x_iald C (at_X4_changed hk0) rfl dX4_changeAnOven_150 (fun _ => ?_)
        refine x_iload C 5 dX4_changeAnOven_151 rfl ?_
        refine x_iadd C dX4_changeAnOven_153 ?_
        refine x_iast C (at_X4_changed hk0) rfl dX4_changeAnOven_154 (fun _ => ?_)
        refine x_letS (fun s12 => ?_)
        refine x_pick [] rfl ?_
        exact hJ7 s12
  · refine x_aload_n C 0 dX4_changeAnOven_18 rfl rfl ?_
    refine x_get (v := .ref (xqa (xXE X).2.2 (k0 + 16))) C 15 cls_X4 (at_X4 hk0) (by decide) wd464 rfl (xV_r (rt_X4_steady hk0 _) rfl) dX4_changeAnOven_19 ?_
    refine x_iload C 6 dX4_changeAnOven_22 rfl ?_
    refine x_iald C (at_X4_steady hk0) rfl dX4_changeAnOven_24 (fun _ => ?_)
    refine x_iload_n C 3 dX4_changeAnOven_25 rfl rfl ?_
    refine x_join (fun J => ∀ q16 : Int × Int, WO X Qf WW σ 112 [(0, .ref (xqa (xXE X).2.2 k0)), (1, .ref (xqa (xXE X).2.2 k1)), (2, iV p2), (3, iV p3), (4, iV q16.1), (5, iV q16.2), (6, iV t2.2.2)] [] (J q16)) ?_ ?_
    · intro q16
      refine x_inc C 6 (f := _) dX4_changeAnOven_112 rfl (by decide) (1) rfl (fun v17 => ?_)
      refine x_reL (L' := [(6, _), (0, _), (1, _), (2, _), (3, _), (4, _), (5, _)]) rfl ?_
      refine x_goto C 9 dX4_changeAnOven_115 rfl ?_
      refine x_pick [1, 2, 3, 4, 5, 6, 0] rfl ?_
      exact hr4 (q16.1, q16.2, v17)
    · intro J14 hJ15
      refine x_icmp_le C 41 rfl rfl dX4_changeAnOven_26 rfl (fun c18 => x_op c18 ?_) (fun c18 => x_on c18 ?_)
      · refine x_aload_n C 1 dX4_changeAnOven_41 rfl rfl ?_
        refine x_get (v := .ref (xqa (xXE X).2.2 (k1 + 8))) C 6 cls_X1 (at_X1 hk1) (by decide) wd357 rfl (xV_r (rt_X1_ovens hk1 _) rfl) dX4_changeAnOven_42 ?_
        refine x_iload C 6 dX4_changeAnOven_45 rfl ?_
        refine x_aald C (at_X1_ovens hk1) (by decide) rfl (fun h19 => rl_X1_ovens hk1 _ h19) dX4_changeAnOven_47 (fun h19 => ?_)
        refine x_get (v := iV (σ (k1 + 9 + (zI t2.2.2).toNat) 3)) C 3 cls_X6 (el_X1_ovens hk1 h19) (by decide) wd219 rfl rfl dX4_changeAnOven_48 ?_
        refine x_if_ne C 112 rfl dX4_changeAnOven_51 rfl (fun c20 => x_on c20 ?_) (fun c20 => x_op c20 ?_)
        · refine x_pick [0, 1, 2, 3, 4, 5, 6] rfl ?_
          exact hJ15 (t2.1, t2.2.1)
        · refine x_aload_n C 0 dX4_changeAnOven_54 rfl rfl ?_
          refine x_get (v := .ref (xqa (xXE X).2.2 (k0 + 18))) C 17 cls_X4 (at_X4 hk0) (by decide) wd467 rfl (xV_r (rt_X4_taken hk0 _) rfl) dX4_changeAnOven_55 ?_
          refine x_iload C 6 dX4_changeAnOven_58 rfl ?_
          refine x_iald C (at_X4_taken hk0) rfl dX4_changeAnOven_60 (fun _ => ?_)
          refine x_if_ne C 112 rfl dX4_changeAnOven_61 rfl (fun c21 => x_on c21 ?_) (fun c21 => x_op c21 ?_)
          · refine x_pick [0, 1, 2, 3, 4, 5, 6] rfl ?_
            exact hJ15 (t2.1, t2.2.1)
          · refine x_aload_n C 0 dX4_changeAnOven_64 rfl rfl ?_
            refine x_get (v := .ref (xqa (xXE X).2.2 (k0 + 15))) C 14 cls_X4 (at_X4 hk0) (by decide) wd463 rfl (xV_r (rt_X4_heat hk0 _) rfl) dX4_changeAnOven_65 ?_
            refine x_iload C 6 dX4_changeAnOven_68 rfl ?_
            refine x_iald C (at_X4_heat hk0) rfl dX4_changeAnOven_70 (fun _ => ?_)
            refine x_iload_n C 2 dX4_changeAnOven_71 rfl rfl ?_
            refine x_isub C dX4_changeAnOven_72 ?_
            refine x_mabs C wd702 wd703 wd58 wd704 (Nat.le_of_ble_eq_true rfl) (Nat.le_of_ble_eq_true rfl) dX4_changeAnOven_73 ?_
            refine x_aload_n C 1 dX4_changeAnOven_76 rfl rfl ?_
            refine x_get (v := .ref (xqa (xXE X).2.2 (k1 + 8))) C 6 cls_X1 (at_X1 hk1) (by decide) wd357 rfl (xV_r (rt_X1_ovens hk1 _) rfl) dX4_changeAnOven_77 ?_
            refine x_iload C 6 dX4_changeAnOven_80 rfl ?_
            refine x_aald C (at_X1_ovens hk1) (by decide) rfl (fun h22 => rl_X1_ovens hk1 _ h22) dX4_changeAnOven_82 (fun h22 => ?_)
            refine x_get (v := iV (σ (k1 + 9 + (zI t2.2.2).toNat) 2)) C 2 cls_X6 (el_X1_ovens hk1 h22) (by decide) wd216 rfl rfl dX4_changeAnOven_83 ?_
            refine x_callSN C (ct_X12_dividedUp _ _ (zabs ((σ (k0 + 15) (zI t2.2.2).toNat) - p2)) (σ (k1 + 9 + (zI t2.2.2).toNat) 2) σ) mt_X12_dividedUp st_X12_dividedUp nw4 rfl ⟨rfl, rfl, Nat.le_of_ble_eq_true rfl, Nat.le_of_ble_eq_true rfl⟩ rfl (by decide) dX4_changeAnOven_86 (kI (fun v23 => ?_))
            refine x_istore (L' := [(7, _), (0, _), (1, _), (2, _), (3, _), (4, _), (5, _), (6, _)]) C dX4_changeAnOven_89 (by decide) rfl ?_
            refine x_iload C 5 dX4_changeAnOven_91 rfl ?_
            refine x_iconst C (-1) dX4_changeAnOven_93 rfl ?_
            refine x_join (fun J => ∀ q26 : Unit, WO X Qf WW σ 104 [(0, .ref (xqa (xXE X).2.2 k0)), (1, .ref (xqa (xXE X).2.2 k1)), (2, iV p2), (3, iV p3), (6, iV t2.2.2), (7, iV v23)] [] (J q26)) ?_ ?_
            · intro q26
              refine x_iload C 4 dX4_changeAnOven_104 rfl ?_
              refine x_istore (L' := [(4, _), (0, _), (1, _), (2, _), (3, _), (6, _), (7, _)]) C dX4_changeAnOven_106 (by decide) rfl ?_
              refine x_iload C 6 dX4_changeAnOven_108 rfl ?_
              refine x_istore (L' := [(5, _), (4, _), (0, _), (1, _), (2, _), (3, _), (6, _), (7, _)]) C dX4_changeAnOven_110 (by decide) rfl ?_
              refine x_pick [2, 3, 4, 5, 1, 0, 6] rfl ?_
              exact hJ15 (t2.2.2, v23)
            · intro J24 hJ25
              refine x_icmp_eq C 104 rfl (zIl _ rfl) dX4_changeAnOven_94 rfl (fun c27 => x_op c27 ?_) (fun c27 => x_on c27 ?_)
              · refine x_pick [1, 2, 3, 4, 7, 0] rfl ?_
                exact hJ25 ()
              · refine x_iload C 0 dX4_changeAnOven_97 rfl ?_
                refine x_iload C 6 dX4_changeAnOven_99 rfl ?_
                refine x_icmp_ge C 112 rfl rfl dX4_changeAnOven_101 rfl (fun c28 => x_op c28 ?_) (fun c28 => x_on c28 ?_)
                · refine x_pick [1, 2, 3, 4, 5, 6, 7] rfl ?_
                  exact hJ15 (t2.1, t2.2.1)
                · refine x_pick [1, 2, 3, 4, 7, 0] rfl ?_
                  exact hJ25 ()
      · refine x_aload_n C 0 dX4_changeAnOven_29 rfl rfl ?_
        refine x_get (v := .ref (xqa (xXE X).2.2 (k0 + 15))) C 14 cls_X4 (at_X4 hk0) (by decide) wd463 rfl (xV_r (rt_X4_heat hk0 _) rfl) dX4_changeAnOven_30 ?_
        refine x_iload C 6 dX4_changeAnOven_33 rfl ?_
        refine x_iald C (at_X4_heat hk0) rfl dX4_changeAnOven_35 (fun _ => ?_)
        refine x_iload_n C 2 dX4_changeAnOven_36 rfl rfl ?_
        refine x_icmp_ne C 112 rfl rfl dX4_changeAnOven_37 rfl (fun c29 => x_on c29 ?_) (fun c29 => x_op c29 ?_)
        · refine x_pick [0, 1, 2, 3, 4, 5, 6] rfl ?_
          exact hJ15 (t2.1, t2.2.1)
        · exact x_vretQ C (hQ _) rfl dX4_changeAnOven_40
theorem ct_X4_changeAnOven (l : Launch) (E : xE) (n : Nat) (k0 : Nat) (k1 : Nat) (p2 : Int) (p3 : Int) (σ : xS) (hk0 : isNt k0) (hk1 : isBk k1)  : xMet l E yX4_changeAnOven cX4_changeAnOven 8 none { frames := 1, cells := 0, slots := 0, locals := 21 } [.ref (xqa E.2.2 k0), .ref (xqa E.2.2 k1), iV p2, iV p3] WW WW σ (xrV (m_X4_changeAnOven n k0 k1 p2 p3 σ)) := by
  refine xMet.of0 (by decide) (Nat.le_of_ble_eq_true rfl) rfl rfl (fun X hE C => ?_)
  subst hE
  exact xMap (fun q => (none, q)) (wk_X4_changeAnOven C (fun _ => rfl) hk0 hk1)
theorem mt_X4_changeAnOven : xMth yX4_changeAnOven cX4_changeAnOven 8 none 3 := ⟨wd701, wd60, ⟨by decide, by decide, rfl⟩⟩
theorem vr_X4_changeAnOven : xVir yX4_changeAnOven := ⟨wd700, wd10⟩
def m_X4_bakeWaiting (n : Nat) (k0 : Nat) (k1 : Nat) (p2 : Int) (σ : xS) : Option xS :=
  loopF (fun rec2 (t1 : Int × Int × xS) => if (zI (t1.2.2 k0 13)) ≤ (zI t1.2.1) then xlet (xput t1.2.2 k0 13 t1.1) fun s5 => some s5 else xck (zI t1.2.1) 60 <| xlet (t1.2.2 (k0 + 14) (zI t1.2.1).toNat) fun v6 => xck (zI v6) 60 <| xck (zI (t1.2.2 (k0 + 1) (zI v6).toNat)) 6 <| (m_X4_freeOven n k0 k1 (t1.2.2 (k1 + 2 + (zI (t1.2.2 (k0 + 1) (zI v6).toNat)).toNat) 6) p2 t1.2.2).bind fun v8 => xj (fun (q12 : Int × xS) => xlet (t1.2.1 + 1) fun v13 => rec2 (q12.1, v13, q12.2)) fun J10 => if (zI v8) = (-1) then (m_X4_changeAnOven n k0 k1 (t1.2.2 (k1 + 2 + (zI (t1.2.2 (k0 + 1) (zI v6).toNat)).toNat) 6) p2 t1.2.2).bind fun s15 => xck (zI t1.1) 60 <| xlet (xput s15 (k0 + 14) (zI t1.1).toNat v6) fun s16 => xlet (t1.1 + 1) fun v17 => J10 (v17, s16) else xck (zI v6) 60 <| xlet (xput t1.2.2 (k0 + 2) (zI v6).toNat v8) fun s18 => xck (zI v8) 4 <| xck (zI v8) 4 <| xlet (xput s18 (k0 + 18) (zI v8).toNat ((s18 (k0 + 18) (zI v8).toNat) + 1)) fun s19 => xck 4 6 <| xck (zI v6) 60 <| xlet (xput s19 (k0 + 4 + (4 : Int).toNat) (zI v6).toNat p2) fun s21 => xck 5 6 <| xck (zI v6) 60 <| xlet (xput s21 (k0 + 4 + (5 : Int).toNat) (zI v6).toNat (p2 + (s21 (k1 + 2 + (zI (t1.2.2 (k0 + 1) (zI v6).toNat)).toNat) 5))) fun s23 => J10 (t1.1, s23)) n (0, 0, σ)
set_option maxHeartbeats 4000000 in
set_option maxRecDepth 100000 in
theorem wk_X4_bakeWaiting {X : xX} {Qf : xS → State → Prop} {n : Nat} {k0 : Nat} {k1 : Nat} {p2 : Int} {σ : xS} (C : xCx X cX4_bakeWaiting "BakeryNight$Night" none { frames := 2, cells := 0, slots := 0, locals := 48 } 8) (hQ : ∀ τ, Qf τ = xQf X WW (none, τ)) (hk0 : isNt k0) (hk1 : isBk k1) : WO X Qf WW σ 0 [(0, .ref (xqa (xXE X).2.2 k0)), (1, .ref (xqa (xXE X).2.2 k1)), (2, iV p2)] [] (m_X4_bakeWaiting n k0 k1 p2 σ) := by
  unfold m_X4_bakeWaiting
  refine x_iconst C (0) dX4_bakeWaiting_0 rfl ?_
  refine x_istore_n (L' := [(3, _), (0, _), (1, _), (2, _)]) C dX4_bakeWaiting_1 rfl (by decide) rfl ?_
  refine x_iconst C (0) dX4_bakeWaiting_2 rfl ?_
  refine x_istore (L' := [(4, _), (3, _), (0, _), (1, _), (2, _)]) C dX4_bakeWaiting_3 (by decide) rfl ?_
  refine x_pick [2, 3, 4, 1, 0] rfl ?_
  refine x_loop (fun t1 : Int × Int × xS => t1.2.2) (fun t1 : Int × Int × xS => [(0, .ref (xqa (xXE X).2.2 k0)), (1, .ref (xqa (xXE X).2.2 k1)), (2, iV p2), (3, iV t1.1), (4, iV t1.2.1)]) (fun rec2 hr3 t1 => ?_) n (0, 0, σ)
  refine x_iload C 4 dX4_bakeWaiting_5 rfl ?_
  refine x_aload_n C 0 dX4_bakeWaiting_7 rfl rfl ?_
  refine x_get (v := iV (t1.2.2 k0 13)) C 13 cls_X4 (at_X4 hk0) (by decide) wd462 rfl rfl dX4_bakeWaiting_8 ?_
  refine x_icmp_ge C 133 rfl rfl dX4_bakeWaiting_11 rfl (fun c4 => x_op c4 ?_) (fun c4 => x_on c4 ?_)
  · refine x_aload_n C 0 dX4_bakeWaiting_133 rfl rfl ?_
    refine x_iload_n C 3 dX4_bakeWaiting_134 rfl rfl ?_
    refine x_put C 13 t1.1 cls_X4 (at_X4 hk0) (by decide) wd462 rfl rfl rfl rfl (xV_pI rfl) dX4_bakeWaiting_135 ?_
    refine x_letS (fun s5 => ?_)
    exact x_vretQ C (hQ _) rfl dX4_bakeWaiting_138
  · refine x_aload_n C 0 dX4_bakeWaiting_14 rfl rfl ?_
    refine x_get (v := .ref (xqa (xXE X).2.2 (k0 + 14))) C 12 cls_X4 (at_X4 hk0) (by decide) wd461 rfl (xV_r (rt_X4_toBake hk0 _) rfl) dX4_bakeWaiting_15 ?_
    refine x_iload C 4 dX4_bakeWaiting_18 rfl ?_
    refine x_iald C (at_X4_toBake hk0) rfl dX4_bakeWaiting_20 (fun _ => ?_)
    refine x_letI (fun v6 => ?_)
    refine x_istore (L' := [(5, _), (0, _), (1, _), (2, _), (3, _), (4, _)]) C dX4_bakeWaiting_21 (by decide) rfl ?_
    refine x_aload_n C 2 dX4_bakeWaiting_23 rfl rfl ?_
    refine x_get (v := .ref (xqa (xXE X).2.2 (k1 + 1))) C 4 cls_X1 (at_X1 hk1) (by decide) wd350 rfl (xV_r (rt_X1_doughs hk1 _) rfl) dX4_bakeWaiting_24 ?_
    refine x_aload_n C 1 dX4_bakeWaiting_27 rfl rfl ?_
    refine x_get (v := .ref (xqa (xXE X).2.2 (k0 + 1))) C 3 cls_X4 (at_X4 hk0) (by decide) wd449 rfl (xV_r (rt_X4_dough hk0 _) rfl) dX4_bakeWaiting_28 ?_
    refine x_iload C 0 dX4_bakeWaiting_31 rfl ?_
    refine x_iald C (at_X4_dough hk0) rfl dX4_bakeWaiting_33 (fun _ => ?_)
    refine x_aald C (at_X1_doughs hk1) (by decide) rfl (fun h7 => rl_X1_doughs hk1 _ h7) dX4_bakeWaiting_34 (fun h7 => ?_)
    refine x_astore (L' := [(6, _), (5, _), (0, _), (1, _), (2, _), (3, _), (4, _)]) C dX4_bakeWaiting_35 (by decide) rfl ?_
    refine x_aload_n C 2 dX4_bakeWaiting_37 rfl rfl ?_
    refine x_aload_n C 3 dX4_bakeWaiting_38 rfl rfl ?_
    refine x_aload C 0 dX4_bakeWaiting_39 rfl ?_
    refine x_get (v := iV (t1.2.2 (k1 + 2 + (zI (t1.2.2 (k0 + 1) (zI v6).toNat)).toNat) 6)) C 6 cls_X2 (el_X1_doughs hk1 h7) (by decide) wd174 rfl rfl dX4_bakeWaiting_41 ?_
    refine x_iload_n C 4 dX4_bakeWaiting_44 rfl rfl ?_
    refine x_callV C (ct_X4_freeOven _ _ n k0 k1 (t1.2.2 (k1 + 2 + (zI (t1.2.2 (k0 + 1) (zI v6).toNat)).toNat) 6) p2 t1.2.2 hk0 hk1) mt_X4_freeOven vr_X4_freeOven wd694 cls_X4 (at_X4 hk0) rfl ⟨rfl, rfl, Nat.le_of_ble_eq_true rfl, Nat.le_of_ble_eq_true rfl⟩ rfl (by decide) dX4_bakeWaiting_45 (kI (fun v8 => ?_))
    refine x_istore (L' := [(7, _), (6, _), (5, _), (0, _), (1, _), (2, _), (3, _), (4, _)]) C dX4_bakeWaiting_48 (by decide) rfl ?_
    refine x_iload C 0 dX4_bakeWaiting_50 rfl ?_
    refine x_iconst C (-1) dX4_bakeWaiting_52 rfl ?_
    refine x_join (fun J => ∀ q12 : Int × xS, WO X Qf WW q12.2 127 [(0, .ref (xqa (xXE X).2.2 k0)), (1, .ref (xqa (xXE X).2.2 k1)), (2, iV p2), (3, iV q12.1), (4, iV t1.2.1)] [] (J q12)) ?_ ?_
    · intro q12
      refine x_inc C 4 (f := _) dX4_bakeWaiting_127 rfl (by decide) (1) rfl (fun v13 => ?_)
      refine x_reL (L' := [(4, _), (0, _), (1, _), (2, _), (3, _)]) rfl ?_
      refine x_goto C 5 dX4_bakeWaiting_130 rfl ?_
      refine x_pick [1, 2, 3, 4, 0] rfl ?_
      exact hr3 (q12.1, v13, q12.2)
    · intro J10 hJ11
      refine x_icmp_eq C 105 rfl (zIl _ rfl) dX4_bakeWaiting_53 rfl (fun c14 => x_op c14 ?_) (fun c14 => x_on c14 ?_)
      · refine x_aload_n C 3 dX4_bakeWaiting_105 rfl rfl ?_
        refine x_aload_n C 4 dX4_bakeWaiting_106 rfl rfl ?_
        refine x_aload C 1 dX4_bakeWaiting_107 rfl ?_
        refine x_get (v := iV (t1.2.2 (k1 + 2 + (zI (t1.2.2 (k0 + 1) (zI v6).toNat)).toNat) 6)) C 6 cls_X2 (el_X1_doughs hk1 h7) (by decide) wd174 rfl rfl dX4_bakeWaiting_109 ?_
        refine x_iload_n C 5 dX4_bakeWaiting_112 rfl rfl ?_
        refine x_callV C (ct_X4_changeAnOven _ _ n k0 k1 (t1.2.2 (k1 + 2 + (zI (t1.2.2 (k0 + 1) (zI v6).toNat)).toNat) 6) p2 t1.2.2 hk0 hk1) mt_X4_changeAnOven vr_X4_changeAnOven wd698 cls_X4 (at_X4 hk0) rfl ⟨rfl, rfl, Nat.le_of_ble_eq_true rfl, Nat.le_of_ble_eq_true rfl⟩ rfl (by decide) dX4_bakeWaiting_113 (kV (fun s15 => ?_))
        refine x_aload_n C 3 dX4_bakeWaiting_116 rfl rfl ?_
        refine x_get (v := .ref (xqa (xXE X).2.2 (k0 + 14))) C 12 cls_X4 (at_X4 hk0) (by decide) wd461 rfl (xV_r (rt_X4_toBake hk0 _) rfl) dX4_bakeWaiting_117 ?_
        refine x_iload_n C 6 dX4_bakeWaiting_120 rfl rfl ?_
        refine x_iload C 2 dX4_bakeWaiting_121 rfl ?_
        refine x_iast C (at_X4_toBake hk0) rfl dX4_bakeWaiting_123 (fun _ => ?_)
        refine x_letS (fun s16 => ?_)
        refine x_inc C 6 (f := _) dX4_bakeWaiting_124 rfl (by decide) (1) rfl (fun v17 => ?_)
        refine x_reL (L' := [(3, _), (7, _), (6, _), (5, _), (0, _), (1, _), (2, _), (4, _)]) rfl ?_
        refine x_pick [4, 5, 6, 0, 7] rfl ?_
        exact hJ11 (v17, s16)
      · refine x_aload_n C 3 dX4_bakeWaiting_56 rfl rfl ?_
        refine x_get (v := .ref (xqa (xXE X).2.2 (k0 + 2))) C 4 cls_X4 (at_X4 hk0) (by decide) wd451 rfl (xV_r (rt_X4_oven hk0 _) rfl) dX4_bakeWaiting_57 ?_
        refine x_iload C 2 dX4_bakeWaiting_60 rfl ?_
        refine x_iload C 0 dX4_bakeWaiting_62 rfl ?_
        refine x_iast C (at_X4_oven hk0) rfl dX4_bakeWaiting_64 (fun _ => ?_)
        refine x_letS (fun s18 => ?_)
        refine x_aload_n C 3 dX4_bakeWaiting_65 rfl rfl ?_
        refine x_get (v := .ref (xqa (xXE X).2.2 (k0 + 18))) C 17 cls_X4 (at_X4 hk0) (by decide) wd467 rfl (xV_r (rt_X4_taken hk0 _) rfl) dX4_bakeWaiting_66 ?_
        refine x_iload C 0 dX4_bakeWaiting_69 rfl ?_
        refine x_dup2 C dX4_bakeWaiting_71 rfl rfl ?_
        refine x_iald C (at_X4_taken hk0) rfl dX4_bakeWaiting_72 (fun _ => ?_)
        refine x_iconst C (1) dX4_bakeWaiting_73 rfl ?_
        refine x_iadd C dX4_bakeWaiting_74 ?_
        refine x_iast C (at_X4_taken hk0) rfl dX4_bakeWaiting_75 (fun _ => ?_)
        refine x_letS (fun s19 => ?_)
        refine x_aload_n C 3 dX4_bakeWaiting_76 rfl rfl ?_
        refine x_get (v := .ref (xqa (xXE X).2.2 (k0 + 3))) C 5 cls_X4 (at_X4 hk0) (by decide) wd453 rfl (xV_r (rt_X4_begun hk0 _) rfl) dX4_bakeWaiting_77 ?_
        refine x_iconst C (4) dX4_bakeWaiting_80 rfl ?_
        refine x_aald C (at_X4_begun hk0) (by decide) (zIl _ rfl) (fun h20 => rl_X4_begun hk0 _ h20) dX4_bakeWaiting_81 (fun h20 => ?_)
        refine x_iload C 2 dX4_bakeWaiting_82 rfl ?_
        refine x_iload_n C 5 dX4_bakeWaiting_84 rfl rfl ?_
        refine x_iast C (el_X4_begun hk0 h20) rfl dX4_bakeWaiting_85 (fun _ => ?_)
        refine x_letS (fun s21 => ?_)
        refine x_aload_n C 3 dX4_bakeWaiting_86 rfl rfl ?_
        refine x_get (v := .ref (xqa (xXE X).2.2 (k0 + 3))) C 5 cls_X4 (at_X4 hk0) (by decide) wd453 rfl (xV_r (rt_X4_begun hk0 _) rfl) dX4_bakeWaiting_87 ?_
        refine x_iconst C (5) dX4_bakeWaiting_90 rfl ?_
        refine x_aald C (at_X4_begun hk0) (by decide) (zIl _ rfl) (fun h22 => rl_X4_begun hk0 _ h22) dX4_bakeWaiting_91 (fun h22 => ?_)
        refine x_iload C 2 dX4_bakeWaiting_92 rfl ?_
        refine x_iload_n C 5 dX4_bakeWaiting_94 rfl rfl ?_
        refine x_aload C 1 dX4_bakeWaiting_95 rfl ?_
        refine x_get (v := iV (s21 (k1 + 2 + (zI (t1.2.2 (k0 + 1) (zI v6).toNat)).toNat) 5)) C 5 cls_X2 (el_X1_doughs hk1 h7) (by decide) wd172 rfl rfl dX4_bakeWaiting_97 ?_
        refine x_iadd C dX4_bakeWaiting_100 ?_
        refine x_iast C (el_X4_begun hk0 h22) rfl dX4_bakeWaiting_101 (fun _ => ?_)
        refine x_letS (fun s23 => ?_)
        refine x_goto C 127 dX4_bakeWaiting_102 rfl ?_
        refine x_pick [3, 4, 5, 6, 7] rfl ?_
        exact hJ11 (t1.1, s23)
theorem ct_X4_bakeWaiting (l : Launch) (E : xE) (n : Nat) (k0 : Nat) (k1 : Nat) (p2 : Int) (σ : xS) (hk0 : isNt k0) (hk1 : isBk k1)  : xMet l E yX4_bakeWaiting cX4_bakeWaiting 8 none { frames := 2, cells := 0, slots := 0, locals := 48 } [.ref (xqa E.2.2 k0), .ref (xqa E.2.2 k1), iV p2] WW WW σ (xrV (m_X4_bakeWaiting n k0 k1 p2 σ)) := by
  refine xMet.of0 (by decide) (Nat.le_of_ble_eq_true rfl) rfl rfl (fun X hE C => ?_)
  subst hE
  exact xMap (fun q => (none, q)) (wk_X4_bakeWaiting C (fun _ => rfl) hk0 hk1)
theorem mt_X4_bakeWaiting : xMth yX4_bakeWaiting cX4_bakeWaiting 8 none 2 := ⟨wd693, wd60, ⟨by decide, by decide, rfl⟩⟩
theorem vr_X4_bakeWaiting : xVir yX4_bakeWaiting := ⟨wd692, wd8⟩
def m_X4_inUse (n : Nat) (k0 : Nat) (p1 : Int) (p2 : Int) (σ : xS) : Option Int :=
  loopF (fun rec2 (t1 : Int × Int) => if (zI (σ k0 2)) ≤ (zI t1.2) then some t1.1 else (m_X4_isIn k0 t1.2 p1 p2 σ).bind fun v5 => xlet (if (zI v5) = 0 then 0 else 1) fun v6 => xlet (t1.1 + v6) fun v7 => xlet (t1.2 + 1) fun v8 => rec2 (v7, v8)) n (0, 0)
set_option maxHeartbeats 4000000 in
set_option maxRecDepth 100000 in
theorem wk_X4_inUse {X : xX} {Qf : Int → State → Prop} {n : Nat} {k0 : Nat} {p1 : Int} {p2 : Int} {σ : xS} (C : xCx X cX4_inUse "BakeryNight$Night" (some .int) { frames := 1, cells := 0, slots := 0, locals := 24 } 5) (hQ : ∀ v, Qf v = xQf X WW (some (iV v), σ)) (hk0 : isNt k0) : WO X Qf WW σ 0 [(0, .ref (xqa (xXE X).2.2 k0)), (1, iV p1), (2, iV p2)] [] (m_X4_inUse n k0 p1 p2 σ) := by
  unfold m_X4_inUse
  refine x_iconst C (0) dX4_inUse_0 rfl ?_
  refine x_istore_n (L' := [(3, _), (0, _), (1, _), (2, _)]) C dX4_inUse_1 rfl (by decide) rfl ?_
  refine x_iconst C (0) dX4_inUse_2 rfl ?_
  refine x_istore (L' := [(4, _), (3, _), (0, _), (1, _), (2, _)]) C dX4_inUse_3 (by decide) rfl ?_
  refine x_pick [2, 3, 4, 1, 0] rfl ?_
  refine x_loop (fun t1 : Int × Int => σ) (fun t1 : Int × Int => [(0, .ref (xqa (xXE X).2.2 k0)), (1, iV p1), (2, iV p2), (3, iV t1.1), (4, iV t1.2)]) (fun rec2 hr3 t1 => ?_) n (0, 0)
  refine x_iload C 4 dX4_inUse_5 rfl ?_
  refine x_aload_n C 0 dX4_inUse_7 rfl rfl ?_
  refine x_get (v := iV (σ k0 2)) C 2 cls_X4 (at_X4 hk0) (by decide) wd448 rfl rfl dX4_inUse_8 ?_
  refine x_icmp_ge C 39 rfl rfl dX4_inUse_11 rfl (fun c4 => x_op c4 ?_) (fun c4 => x_on c4 ?_)
  · refine x_iload_n C 3 dX4_inUse_39 rfl rfl ?_
    exact x_iretQ C (hQ _) rfl dX4_inUse_40
  · refine x_iload_n C 3 dX4_inUse_14 rfl rfl ?_
    refine x_aload_n C 0 dX4_inUse_15 rfl rfl ?_
    refine x_iload C 4 dX4_inUse_16 rfl ?_
    refine x_iload_n C 1 dX4_inUse_18 rfl rfl ?_
    refine x_iload_n C 2 dX4_inUse_19 rfl rfl ?_
    refine x_callV C (ct_X4_isIn _ _ k0 t1.2 p1 p2 σ hk0) mt_X4_isIn vr_X4_isIn wd682 cls_X4 (at_X4 hk0) rfl ⟨rfl, rfl, Nat.le_of_ble_eq_true rfl, Nat.le_of_ble_eq_true rfl⟩ rfl (Nat.le_of_ble_eq_true rfl) dX4_inUse_20 (kI (fun v5 => ?_))
    refine x_tree 31 [iV t1.1] (fun v6 => ?_) (fun hJ9 => ?_)
    · refine x_iadd C dX4_inUse_31 ?_
      refine x_letI (fun v7 => ?_)
      refine x_istore_n (L' := [(3, _), (0, _), (1, _), (2, _), (4, _)]) C dX4_inUse_32 rfl (by decide) rfl ?_
      refine x_inc C 4 (f := _) dX4_inUse_33 rfl (by decide) (1) rfl (fun v8 => ?_)
      refine x_reL (L' := [(4, _), (3, _), (0, _), (1, _), (2, _)]) rfl ?_
      refine x_goto C 5 dX4_inUse_36 rfl ?_
      refine x_pick [2, 3, 4, 1, 0] rfl ?_
      exact hr3 (v7, v8)
    · refine x_if_eq C 30 rfl dX4_inUse_23 rfl (fun c10 => ?_) (fun c10 => ?_)
      · refine x_iconst C (0) dX4_inUse_30 rfl ?_
        exact hJ9 _ (by rw [if_pos c10])
      · refine x_iconst C (1) dX4_inUse_26 rfl ?_
        refine x_goto C 31 dX4_inUse_27 rfl ?_
        exact hJ9 _ (by rw [if_neg c10])
theorem ct_X4_inUse (l : Launch) (E : xE) (n : Nat) (k0 : Nat) (p1 : Int) (p2 : Int) (σ : xS) (hk0 : isNt k0)  : xMet l E yX4_inUse cX4_inUse 5 (some .int) { frames := 1, cells := 0, slots := 0, locals := 24 } [.ref (xqa E.2.2 k0), iV p1, iV p2] WW WW σ (xrI (m_X4_inUse n k0 p1 p2 σ) σ) := by
  refine xMet.of0 (by decide) (Nat.le_of_ble_eq_true rfl) rfl rfl (fun X hE C => ?_)
  subst hE
  exact xMap (fun v => (some (iV v), σ)) (wk_X4_inUse C (fun _ => rfl) hk0)
theorem mt_X4_inUse : xMth yX4_inUse cX4_inUse 5 (some .int) 2 := ⟨wd713, wd60, ⟨by decide, by decide, rfl⟩⟩
theorem vr_X4_inUse : xVir yX4_inUse := ⟨wd711, wd712⟩
def m_X4_shapeWaiting (n : Nat) (k0 : Nat) (k1 : Nat) (p2 : Int) (σ : xS) : Option xS :=
  (m_X4_inUse n k0 2 p2 σ).bind fun v1 => xlet (zmin (σ k0 11) (zmax (0 : Int) ((σ k1 3) - v1))) fun v2 => loopF (fun rec4 (t3 : Int × xS) => if (zI v2) ≤ (zI t3.1) then xlet (xput t3.2 k0 11 ((t3.2 k0 11) - v2)) fun s7 => xcc (zI v2) 0 (zI (s7 k0 11)) 60 60 <| xlet (xcpy s7 (k0 + 13) (k0 + 13) (zI v2) 0 (zI (s7 k0 11))) fun s8 => some s8 else xck (zI t3.1) 60 <| xlet (t3.2 (k0 + 13) (zI t3.1).toNat) fun v9 => xck (zI v9) 60 <| xck (zI (t3.2 (k0 + 1) (zI v9).toNat)) 6 <| xck 2 6 <| xck (zI v9) 60 <| xlet (xput t3.2 (k0 + 4 + (2 : Int).toNat) (zI v9).toNat p2) fun s12 => xck 3 6 <| xck (zI v9) 60 <| xlet (xput s12 (k0 + 4 + (3 : Int).toNat) (zI v9).toNat (p2 + (s12 (k1 + 2 + (zI (t3.2 (k0 + 1) (zI v9).toNat)).toNat) 2))) fun s14 => xck 3 6 <| xck (zI v9) 60 <| (m_X1_inThisRoom k1 (s14 (k1 + 2 + (zI (t3.2 (k0 + 1) (zI v9).toNat)).toNat) 3) s14).bind fun v16 => xck (zI v9) 60 <| xlet (xput s14 (k0 + 11) (zI v9).toNat ((s14 (k0 + 4 + (3 : Int).toNat) (zI v9).toNat) + v16)) fun s17 => xlet (t3.1 + 1) fun v18 => rec4 (v18, s17)) n (0, σ)
set_option maxHeartbeats 4000000 in
set_option maxRecDepth 100000 in
theorem wk_X4_shapeWaiting {X : xX} {Qf : xS → State → Prop} {n : Nat} {k0 : Nat} {k1 : Nat} {p2 : Int} {σ : xS} (C : xCx X cX4_shapeWaiting "BakeryNight$Night" none { frames := 2, cells := 0, slots := 0, locals := 48 } 7) (hQ : ∀ τ, Qf τ = xQf X WW (none, τ)) (hk0 : isNt k0) (hk1 : isBk k1) : WO X Qf WW σ 0 [(0, .ref (xqa (xXE X).2.2 k0)), (1, .ref (xqa (xXE X).2.2 k1)), (2, iV p2)] [] (m_X4_shapeWaiting n k0 k1 p2 σ) := by
  unfold m_X4_shapeWaiting
  refine x_aload_n C 0 dX4_shapeWaiting_0 rfl rfl ?_
  refine x_get (v := iV (σ k0 11)) C 11 cls_X4 (at_X4 hk0) (by decide) wd460 rfl rfl dX4_shapeWaiting_1 ?_
  refine x_iconst C (0) dX4_shapeWaiting_4 rfl ?_
  refine x_aload_n C 1 dX4_shapeWaiting_5 rfl rfl ?_
  refine x_get (v := iV (σ k1 3)) C 3 cls_X1 (at_X1 hk1) (by decide) wd348 rfl rfl dX4_shapeWaiting_6 ?_
  refine x_aload_n C 0 dX4_shapeWaiting_9 rfl rfl ?_
  refine x_iconst C (2) dX4_shapeWaiting_10 rfl ?_
  refine x_iload_n C 2 dX4_shapeWaiting_11 rfl rfl ?_
  refine x_callV C (ct_X4_inUse _ _ n k0 2 p2 σ hk0) mt_X4_inUse vr_X4_inUse wd710 cls_X4 (at_X4 hk0) rfl ⟨rfl, rfl, Nat.le_of_ble_eq_true rfl, Nat.le_of_ble_eq_true rfl⟩ rfl (Nat.le_of_ble_eq_true rfl) dX4_shapeWaiting_12 (kI (fun v1 => ?_))
  refine x_isub C dX4_shapeWaiting_15 ?_
  refine x_mmax C wd714 wd715 wd58 wd716 (Nat.le_of_ble_eq_true rfl) (Nat.le_of_ble_eq_true rfl) dX4_shapeWaiting_16 ?_
  refine x_mmin C wd672 wd321 wd58 wd322 (Nat.le_of_ble_eq_true rfl) (Nat.le_of_ble_eq_true rfl) dX4_shapeWaiting_19 ?_
  refine x_letI (fun v2 => ?_)
  refine x_istore_n (L' := [(3, _), (0, _), (1, _), (2, _)]) C dX4_shapeWaiting_22 rfl (by decide) rfl ?_
  refine x_iconst C (0) dX4_shapeWaiting_23 rfl ?_
  refine x_istore (L' := [(4, _), (3, _), (0, _), (1, _), (2, _)]) C dX4_shapeWaiting_24 (by decide) rfl ?_
  refine x_pick [2, 3, 4, 1, 0] rfl ?_
  refine x_loop (fun t3 : Int × xS => t3.2) (fun t3 : Int × xS => [(0, .ref (xqa (xXE X).2.2 k0)), (1, .ref (xqa (xXE X).2.2 k1)), (2, iV p2), (3, iV v2), (4, iV t3.1)]) (fun rec4 hr5 t3 => ?_) n (0, σ)
  refine x_iload C 4 dX4_shapeWaiting_26 rfl ?_
  refine x_iload_n C 3 dX4_shapeWaiting_28 rfl rfl ?_
  refine x_icmp_ge C 113 rfl rfl dX4_shapeWaiting_29 rfl (fun c6 => x_op c6 ?_) (fun c6 => x_on c6 ?_)
  · refine x_aload_n C 0 dX4_shapeWaiting_113 rfl rfl ?_
    refine x_dup C dX4_shapeWaiting_114 rfl ?_
    refine x_get (v := iV (t3.2 k0 11)) C 11 cls_X4 (at_X4 hk0) (by decide) wd460 rfl rfl dX4_shapeWaiting_115 ?_
    refine x_iload_n C 3 dX4_shapeWaiting_118 rfl rfl ?_
    refine x_isub C dX4_shapeWaiting_119 ?_
    refine x_put C 11 ((t3.2 k0 11) - v2) cls_X4 (at_X4 hk0) (by decide) wd460 rfl rfl rfl rfl (xV_pI rfl) dX4_shapeWaiting_120 ?_
    refine x_letS (fun s7 => ?_)
    refine x_aload_n C 0 dX4_shapeWaiting_123 rfl rfl ?_
    refine x_get (v := .ref (xqa (xXE X).2.2 (k0 + 13))) C 10 cls_X4 (at_X4 hk0) (by decide) wd459 rfl (xV_r (rt_X4_toShape hk0 _) rfl) dX4_shapeWaiting_124 ?_
    refine x_iload_n C 3 dX4_shapeWaiting_127 rfl rfl ?_
    refine x_aload_n C 0 dX4_shapeWaiting_128 rfl rfl ?_
    refine x_get (v := .ref (xqa (xXE X).2.2 (k0 + 13))) C 10 cls_X4 (at_X4 hk0) (by decide) wd459 rfl (xV_r (rt_X4_toShape hk0 _) rfl) dX4_shapeWaiting_129 ?_
    refine x_iconst C (0) dX4_shapeWaiting_132 rfl ?_
    refine x_aload_n C 0 dX4_shapeWaiting_133 rfl rfl ?_
    refine x_get (v := iV (s7 k0 11)) C 11 cls_X4 (at_X4 hk0) (by decide) wd460 rfl rfl dX4_shapeWaiting_134 ?_
    refine x_copy C (at_X4_toShape hk0) (at_X4_toShape hk0) rfl (zIl _ rfl) rfl wd721 wd723 wd722 wd62 (Nat.le_of_ble_eq_true rfl) (Nat.le_of_ble_eq_true rfl) dX4_shapeWaiting_137 (fun s8 => ?_)
    exact x_vretQ C (hQ _) rfl dX4_shapeWaiting_140
  · refine x_aload_n C 0 dX4_shapeWaiting_32 rfl rfl ?_
    refine x_get (v := .ref (xqa (xXE X).2.2 (k0 + 13))) C 10 cls_X4 (at_X4 hk0) (by decide) wd459 rfl (xV_r (rt_X4_toShape hk0 _) rfl) dX4_shapeWaiting_33 ?_
    refine x_iload C 4 dX4_shapeWaiting_36 rfl ?_
    refine x_iald C (at_X4_toShape hk0) rfl dX4_shapeWaiting_38 (fun _ => ?_)
    refine x_letI (fun v9 => ?_)
    refine x_istore (L' := [(5, _), (0, _), (1, _), (2, _), (3, _), (4, _)]) C dX4_shapeWaiting_39 (by decide) rfl ?_
    refine x_aload_n C 2 dX4_shapeWaiting_41 rfl rfl ?_
    refine x_get (v := .ref (xqa (xXE X).2.2 (k1 + 1))) C 4 cls_X1 (at_X1 hk1) (by decide) wd350 rfl (xV_r (rt_X1_doughs hk1 _) rfl) dX4_shapeWaiting_42 ?_
    refine x_aload_n C 1 dX4_shapeWaiting_45 rfl rfl ?_
    refine x_get (v := .ref (xqa (xXE X).2.2 (k0 + 1))) C 3 cls_X4 (at_X4 hk0) (by decide) wd449 rfl (xV_r (rt_X4_dough hk0 _) rfl) dX4_shapeWaiting_46 ?_
    refine x_iload C 0 dX4_shapeWaiting_49 rfl ?_
    refine x_iald C (at_X4_dough hk0) rfl dX4_shapeWaiting_51 (fun _ => ?_)
    refine x_aald C (at_X1_doughs hk1) (by decide) rfl (fun h10 => rl_X1_doughs hk1 _ h10) dX4_shapeWaiting_52 (fun h10 => ?_)
    refine x_astore (L' := [(6, _), (5, _), (0, _), (1, _), (2, _), (3, _), (4, _)]) C dX4_shapeWaiting_53 (by decide) rfl ?_
    refine x_aload_n C 2 dX4_shapeWaiting_55 rfl rfl ?_
    refine x_get (v := .ref (xqa (xXE X).2.2 (k0 + 3))) C 5 cls_X4 (at_X4 hk0) (by decide) wd453 rfl (xV_r (rt_X4_begun hk0 _) rfl) dX4_shapeWaiting_56 ?_
    refine x_iconst C (2) dX4_shapeWaiting_59 rfl ?_
    refine x_aald C (at_X4_begun hk0) (by decide) (zIl _ rfl) (fun h11 => rl_X4_begun hk0 _ h11) dX4_shapeWaiting_60 (fun h11 => ?_)
    refine x_iload C 1 dX4_shapeWaiting_61 rfl ?_
    refine x_iload_n C 4 dX4_shapeWaiting_63 rfl rfl ?_
    refine x_iast C (el_X4_begun hk0 h11) rfl dX4_shapeWaiting_64 (fun _ => ?_)
    refine x_letS (fun s12 => ?_)
    refine x_aload_n C 2 dX4_shapeWaiting_65 rfl rfl ?_
    refine x_get (v := .ref (xqa (xXE X).2.2 (k0 + 3))) C 5 cls_X4 (at_X4 hk0) (by decide) wd453 rfl (xV_r (rt_X4_begun hk0 _) rfl) dX4_shapeWaiting_66 ?_
    refine x_iconst C (3) dX4_shapeWaiting_69 rfl ?_
    refine x_aald C (at_X4_begun hk0) (by decide) (zIl _ rfl) (fun h13 => rl_X4_begun hk0 _ h13) dX4_shapeWaiting_70 (fun h13 => ?_)
    refine x_iload C 1 dX4_shapeWaiting_71 rfl ?_
    refine x_iload_n C 4 dX4_shapeWaiting_73 rfl rfl ?_
    refine x_aload C 0 dX4_shapeWaiting_74 rfl ?_
    refine x_get (v := iV (s12 (k1 + 2 + (zI (t3.2 (k0 + 1) (zI v9).toNat)).toNat) 2)) C 2 cls_X2 (el_X1_doughs hk1 h10) (by decide) wd167 rfl rfl dX4_shapeWaiting_76 ?_
    refine x_iadd C dX4_shapeWaiting_79 ?_
    refine x_iast C (el_X4_begun hk0 h13) rfl dX4_shapeWaiting_80 (fun _ => ?_)
    refine x_letS (fun s14 => ?_)
    refine x_aload_n C 2 dX4_shapeWaiting_81 rfl rfl ?_
    refine x_get (v := .ref (xqa (xXE X).2.2 (k0 + 11))) C 7 cls_X4 (at_X4 hk0) (by decide) wd456 rfl (xV_r (rt_X4_proofed hk0 _) rfl) dX4_shapeWaiting_82 ?_
    refine x_iload C 1 dX4_shapeWaiting_85 rfl ?_
    refine x_aload_n C 2 dX4_shapeWaiting_87 rfl rfl ?_
    refine x_get (v := .ref (xqa (xXE X).2.2 (k0 + 3))) C 5 cls_X4 (at_X4 hk0) (by decide) wd453 rfl (xV_r (rt_X4_begun hk0 _) rfl) dX4_shapeWaiting_88 ?_
    refine x_iconst C (3) dX4_shapeWaiting_91 rfl ?_
    refine x_aald C (at_X4_begun hk0) (by decide) (zIl _ rfl) (fun h15 => rl_X4_begun hk0 _ h15) dX4_shapeWaiting_92 (fun h15 => ?_)
    refine x_iload C 1 dX4_shapeWaiting_93 rfl ?_
    refine x_iald C (el_X4_begun hk0 h15) rfl dX4_shapeWaiting_95 (fun _ => ?_)
    refine x_aload_n C 3 dX4_shapeWaiting_96 rfl rfl ?_
    refine x_aload C 0 dX4_shapeWaiting_97 rfl ?_
    refine x_get (v := iV (s14 (k1 + 2 + (zI (t3.2 (k0 + 1) (zI v9).toNat)).toNat) 3)) C 3 cls_X2 (el_X1_doughs hk1 h10) (by decide) wd169 rfl rfl dX4_shapeWaiting_99 ?_
    refine x_callV C (ct_X1_inThisRoom _ _ k1 (s14 (k1 + 2 + (zI (t3.2 (k0 + 1) (zI v9).toNat)).toNat) 3) s14 hk1) mt_X1_inThisRoom vr_X1_inThisRoom wd717 cls_X1 (at_X1 hk1) rfl ⟨rfl, rfl, Nat.le_of_ble_eq_true rfl, Nat.le_of_ble_eq_true rfl⟩ rfl (Nat.le_of_ble_eq_true rfl) dX4_shapeWaiting_102 (kI (fun v16 => ?_))
    refine x_iadd C dX4_shapeWaiting_105 ?_
    refine x_iast C (at_X4_proofed hk0) rfl dX4_shapeWaiting_106 (fun _ => ?_)
    refine x_letS (fun s17 => ?_)
    refine x_inc C 6 (f := _) dX4_shapeWaiting_107 rfl (by decide) (1) rfl (fun v18 => ?_)
    refine x_reL (L' := [(4, _), (6, _), (5, _), (0, _), (1, _), (2, _), (3, _)]) rfl ?_
    refine x_goto C 26 dX4_shapeWaiting_110 rfl ?_
    refine x_pick [3, 4, 5, 6, 0] rfl ?_
    exact hr5 (v18, s17)
theorem ct_X4_shapeWaiting (l : Launch) (E : xE) (n : Nat) (k0 : Nat) (k1 : Nat) (p2 : Int) (σ : xS) (hk0 : isNt k0) (hk1 : isBk k1)  : xMet l E yX4_shapeWaiting cX4_shapeWaiting 7 none { frames := 2, cells := 0, slots := 0, locals := 48 } [.ref (xqa E.2.2 k0), .ref (xqa E.2.2 k1), iV p2] WW WW σ (xrV (m_X4_shapeWaiting n k0 k1 p2 σ)) := by
  refine xMet.of0 (by decide) (Nat.le_of_ble_eq_true rfl) rfl rfl (fun X hE C => ?_)
  subst hE
  exact xMap (fun q => (none, q)) (wk_X4_shapeWaiting C (fun _ => rfl) hk0 hk1)
theorem mt_X4_shapeWaiting : xMth yX4_shapeWaiting cX4_shapeWaiting 7 none 2 := ⟨wd709, wd60, ⟨by decide, by decide, rfl⟩⟩
theorem vr_X4_shapeWaiting : xVir yX4_shapeWaiting := ⟨wd708, wd11⟩
def m_X4_mixNext (n : Nat) (k0 : Nat) (k1 : Nat) (p2 : Int) (σ : xS) : Option xS :=
  (m_X4_inUse n k0 0 p2 σ).bind fun v1 => xlet (zmin (σ k0 2) ((σ k0 9) + (zmax (0 : Int) ((σ k1 2) - v1)))) fun v2 => loopF (fun rec4 (t3 : xS) => if (zI v2) ≤ (zI (t3 k0 9)) then some t3 else xck (zI (t3 k0 9)) 60 <| xck (zI (t3 (k0 + 1) (zI (t3 k0 9)).toNat)) 6 <| xck 0 6 <| xck (zI (t3 k0 9)) 60 <| xlet (xput t3 (k0 + 4 + (0 : Int).toNat) (zI (t3 k0 9)).toNat p2) fun s9 => xck 1 6 <| xck (zI (s9 k0 9)) 60 <| xlet (xput s9 (k0 + 4 + (1 : Int).toNat) (zI (s9 k0 9)).toNat (p2 + (s9 (k1 + 2 + (zI (t3 (k0 + 1) (zI (t3 k0 9)).toNat)).toNat) 0))) fun s11 => xck 1 6 <| xck (zI (s11 k0 9)) 60 <| (m_X1_inThisRoom k1 (s11 (k1 + 2 + (zI (t3 (k0 + 1) (zI (t3 k0 9)).toNat)).toNat) 1) s11).bind fun v13 => xck (zI (s11 k0 9)) 60 <| xlet (xput s11 (k0 + 10) (zI (s11 k0 9)).toNat ((s11 (k0 + 4 + (1 : Int).toNat) (zI (s11 k0 9)).toNat) + v13)) fun s14 => xlet (xput s14 k0 9 ((s14 k0 9) + 1)) fun s15 => rec4 s15) n σ
set_option maxHeartbeats 4000000 in
set_option maxRecDepth 100000 in
theorem wk_X4_mixNext {X : xX} {Qf : xS → State → Prop} {n : Nat} {k0 : Nat} {k1 : Nat} {p2 : Int} {σ : xS} (C : xCx X cX4_mixNext "BakeryNight$Night" none { frames := 2, cells := 0, slots := 0, locals := 48 } 5) (hQ : ∀ τ, Qf τ = xQf X WW (none, τ)) (hk0 : isNt k0) (hk1 : isBk k1) : WO X Qf WW σ 0 [(0, .ref (xqa (xXE X).2.2 k0)), (1, .ref (xqa (xXE X).2.2 k1)), (2, iV p2)] [] (m_X4_mixNext n k0 k1 p2 σ) := by
  unfold m_X4_mixNext
  refine x_aload_n C 0 dX4_mixNext_0 rfl rfl ?_
  refine x_get (v := iV (σ k0 2)) C 2 cls_X4 (at_X4 hk0) (by decide) wd448 rfl rfl dX4_mixNext_1 ?_
  refine x_aload_n C 0 dX4_mixNext_4 rfl rfl ?_
  refine x_get (v := iV (σ k0 9)) C 9 cls_X4 (at_X4 hk0) (by decide) wd458 rfl rfl dX4_mixNext_5 ?_
  refine x_iconst C (0) dX4_mixNext_8 rfl ?_
  refine x_aload_n C 1 dX4_mixNext_9 rfl rfl ?_
  refine x_get (v := iV (σ k1 2)) C 2 cls_X1 (at_X1 hk1) (by decide) wd345 rfl rfl dX4_mixNext_10 ?_
  refine x_aload_n C 0 dX4_mixNext_13 rfl rfl ?_
  refine x_iconst C (0) dX4_mixNext_14 rfl ?_
  refine x_iload_n C 2 dX4_mixNext_15 rfl rfl ?_
  refine x_callV C (ct_X4_inUse _ _ n k0 0 p2 σ hk0) mt_X4_inUse vr_X4_inUse wd710 cls_X4 (at_X4 hk0) rfl ⟨rfl, rfl, Nat.le_of_ble_eq_true rfl, Nat.le_of_ble_eq_true rfl⟩ rfl (Nat.le_of_ble_eq_true rfl) dX4_mixNext_16 (kI (fun v1 => ?_))
  refine x_isub C dX4_mixNext_19 ?_
  refine x_mmax C wd714 wd715 wd58 wd716 (Nat.le_of_ble_eq_true rfl) (Nat.le_of_ble_eq_true rfl) dX4_mixNext_20 ?_
  refine x_iadd C dX4_mixNext_23 ?_
  refine x_mmin C wd672 wd321 wd58 wd322 (Nat.le_of_ble_eq_true rfl) (Nat.le_of_ble_eq_true rfl) dX4_mixNext_24 ?_
  refine x_letI (fun v2 => ?_)
  refine x_istore_n (L' := [(3, _), (0, _), (1, _), (2, _)]) C dX4_mixNext_27 rfl (by decide) rfl ?_
  refine x_pick [1, 2, 3, 0] rfl ?_
  refine x_loop (fun t3 : xS => t3) (fun t3 : xS => [(0, .ref (xqa (xXE X).2.2 k0)), (1, .ref (xqa (xXE X).2.2 k1)), (2, iV p2), (3, iV v2)]) (fun rec4 hr5 t3 => ?_) n σ
  refine x_aload_n C 0 dX4_mixNext_28 rfl rfl ?_
  refine x_get (v := iV (t3 k0 9)) C 9 cls_X4 (at_X4 hk0) (by decide) wd458 rfl rfl dX4_mixNext_29 ?_
  refine x_iload_n C 3 dX4_mixNext_32 rfl rfl ?_
  refine x_icmp_ge C 125 rfl rfl dX4_mixNext_33 rfl (fun c6 => x_op c6 ?_) (fun c6 => x_on c6 ?_)
  · exact x_vretQ C (hQ _) rfl dX4_mixNext_125
  · refine x_aload_n C 1 dX4_mixNext_36 rfl rfl ?_
    refine x_get (v := .ref (xqa (xXE X).2.2 (k1 + 1))) C 4 cls_X1 (at_X1 hk1) (by decide) wd350 rfl (xV_r (rt_X1_doughs hk1 _) rfl) dX4_mixNext_37 ?_
    refine x_aload_n C 0 dX4_mixNext_40 rfl rfl ?_
    refine x_get (v := .ref (xqa (xXE X).2.2 (k0 + 1))) C 3 cls_X4 (at_X4 hk0) (by decide) wd449 rfl (xV_r (rt_X4_dough hk0 _) rfl) dX4_mixNext_41 ?_
    refine x_aload_n C 0 dX4_mixNext_44 rfl rfl ?_
    refine x_get (v := iV (t3 k0 9)) C 9 cls_X4 (at_X4 hk0) (by decide) wd458 rfl rfl dX4_mixNext_45 ?_
    refine x_iald C (at_X4_dough hk0) rfl dX4_mixNext_48 (fun _ => ?_)
    refine x_aald C (at_X1_doughs hk1) (by decide) rfl (fun h7 => rl_X1_doughs hk1 _ h7) dX4_mixNext_49 (fun h7 => ?_)
    refine x_astore (L' := [(4, _), (0, _), (1, _), (2, _), (3, _)]) C dX4_mixNext_50 (by decide) rfl ?_
    refine x_aload_n C 1 dX4_mixNext_52 rfl rfl ?_
    refine x_get (v := .ref (xqa (xXE X).2.2 (k0 + 3))) C 5 cls_X4 (at_X4 hk0) (by decide) wd453 rfl (xV_r (rt_X4_begun hk0 _) rfl) dX4_mixNext_53 ?_
    refine x_iconst C (0) dX4_mixNext_56 rfl ?_
    refine x_aald C (at_X4_begun hk0) (by decide) (zIl _ rfl) (fun h8 => rl_X4_begun hk0 _ h8) dX4_mixNext_57 (fun h8 => ?_)
    refine x_aload_n C 1 dX4_mixNext_58 rfl rfl ?_
    refine x_get (v := iV (t3 k0 9)) C 9 cls_X4 (at_X4 hk0) (by decide) wd458 rfl rfl dX4_mixNext_59 ?_
    refine x_iload_n C 3 dX4_mixNext_62 rfl rfl ?_
    refine x_iast C (el_X4_begun hk0 h8) rfl dX4_mixNext_63 (fun _ => ?_)
    refine x_letS (fun s9 => ?_)
    refine x_aload_n C 1 dX4_mixNext_64 rfl rfl ?_
    refine x_get (v := .ref (xqa (xXE X).2.2 (k0 + 3))) C 5 cls_X4 (at_X4 hk0) (by decide) wd453 rfl (xV_r (rt_X4_begun hk0 _) rfl) dX4_mixNext_65 ?_
    refine x_iconst C (1) dX4_mixNext_68 rfl ?_
    refine x_aald C (at_X4_begun hk0) (by decide) (zIl _ rfl) (fun h10 => rl_X4_begun hk0 _ h10) dX4_mixNext_69 (fun h10 => ?_)
    refine x_aload_n C 1 dX4_mixNext_70 rfl rfl ?_
    refine x_get (v := iV (s9 k0 9)) C 9 cls_X4 (at_X4 hk0) (by decide) wd458 rfl rfl dX4_mixNext_71 ?_
    refine x_iload_n C 3 dX4_mixNext_74 rfl rfl ?_
    refine x_aload C 0 dX4_mixNext_75 rfl ?_
    refine x_get (v := iV (s9 (k1 + 2 + (zI (t3 (k0 + 1) (zI (t3 k0 9)).toNat)).toNat) 0)) C 0 cls_X2 (el_X1_doughs hk1 h7) (by decide) wd163 rfl rfl dX4_mixNext_77 ?_
    refine x_iadd C dX4_mixNext_80 ?_
    refine x_iast C (el_X4_begun hk0 h10) rfl dX4_mixNext_81 (fun _ => ?_)
    refine x_letS (fun s11 => ?_)
    refine x_aload_n C 1 dX4_mixNext_82 rfl rfl ?_
    refine x_get (v := .ref (xqa (xXE X).2.2 (k0 + 10))) C 6 cls_X4 (at_X4 hk0) (by decide) wd455 rfl (xV_r (rt_X4_risen hk0 _) rfl) dX4_mixNext_83 ?_
    refine x_aload_n C 1 dX4_mixNext_86 rfl rfl ?_
    refine x_get (v := iV (s11 k0 9)) C 9 cls_X4 (at_X4 hk0) (by decide) wd458 rfl rfl dX4_mixNext_87 ?_
    refine x_aload_n C 1 dX4_mixNext_90 rfl rfl ?_
    refine x_get (v := .ref (xqa (xXE X).2.2 (k0 + 3))) C 5 cls_X4 (at_X4 hk0) (by decide) wd453 rfl (xV_r (rt_X4_begun hk0 _) rfl) dX4_mixNext_91 ?_
    refine x_iconst C (1) dX4_mixNext_94 rfl ?_
    refine x_aald C (at_X4_begun hk0) (by decide) (zIl _ rfl) (fun h12 => rl_X4_begun hk0 _ h12) dX4_mixNext_95 (fun h12 => ?_)
    refine x_aload_n C 1 dX4_mixNext_96 rfl rfl ?_
    refine x_get (v := iV (s11 k0 9)) C 9 cls_X4 (at_X4 hk0) (by decide) wd458 rfl rfl dX4_mixNext_97 ?_
    refine x_iald C (el_X4_begun hk0 h12) rfl dX4_mixNext_100 (fun _ => ?_)
    refine x_aload_n C 2 dX4_mixNext_101 rfl rfl ?_
    refine x_aload C 0 dX4_mixNext_102 rfl ?_
    refine x_get (v := iV (s11 (k1 + 2 + (zI (t3 (k0 + 1) (zI (t3 k0 9)).toNat)).toNat) 1)) C 1 cls_X2 (el_X1_doughs hk1 h7) (by decide) wd165 rfl rfl dX4_mixNext_104 ?_
    refine x_callV C (ct_X1_inThisRoom _ _ k1 (s11 (k1 + 2 + (zI (t3 (k0 + 1) (zI (t3 k0 9)).toNat)).toNat) 1) s11 hk1) mt_X1_inThisRoom vr_X1_inThisRoom wd717 cls_X1 (at_X1 hk1) rfl ⟨rfl, rfl, Nat.le_of_ble_eq_true rfl, Nat.le_of_ble_eq_true rfl⟩ rfl (Nat.le_of_ble_eq_true rfl) dX4_mixNext_107 (kI (fun v13 => ?_))
    refine x_iadd C dX4_mixNext_110 ?_
    refine x_iast C (at_X4_risen hk0) rfl dX4_mixNext_111 (fun _ => ?_)
    refine x_letS (fun s14 => ?_)
    refine x_aload_n C 1 dX4_mixNext_112 rfl rfl ?_
    refine x_dup C dX4_mixNext_113 rfl ?_
    refine x_get (v := iV (s14 k0 9)) C 9 cls_X4 (at_X4 hk0) (by decide) wd458 rfl rfl dX4_mixNext_114 ?_
    refine x_iconst C (1) dX4_mixNext_117 rfl ?_
    refine x_iadd C dX4_mixNext_118 ?_
    refine x_put C 9 ((s14 k0 9) + 1) cls_X4 (at_X4 hk0) (by decide) wd458 rfl rfl rfl rfl (xV_pI rfl) dX4_mixNext_119 ?_
    refine x_letS (fun s15 => ?_)
    refine x_goto C 28 dX4_mixNext_122 rfl ?_
    refine x_pick [1, 2, 3, 4] rfl ?_
    exact hr5 s15
theorem ct_X4_mixNext (l : Launch) (E : xE) (n : Nat) (k0 : Nat) (k1 : Nat) (p2 : Int) (σ : xS) (hk0 : isNt k0) (hk1 : isBk k1)  : xMet l E yX4_mixNext cX4_mixNext 5 none { frames := 2, cells := 0, slots := 0, locals := 48 } [.ref (xqa E.2.2 k0), .ref (xqa E.2.2 k1), iV p2] WW WW σ (xrV (m_X4_mixNext n k0 k1 p2 σ)) := by
  refine xMet.of0 (by decide) (Nat.le_of_ble_eq_true rfl) rfl rfl (fun X hE C => ?_)
  subst hE
  exact xMap (fun q => (none, q)) (wk_X4_mixNext C (fun _ => rfl) hk0 hk1)
theorem mt_X4_mixNext : xMth yX4_mixNext cX4_mixNext 5 none 2 := ⟨wd727, wd60, ⟨by decide, by decide, rfl⟩⟩
theorem vr_X4_mixNext : xVir yX4_mixNext := ⟨wd726, wd12⟩
def m_X4_sooner (p1 : Int) (p2 : Int) (p3 : Int) : Int := if (zI p2) ≤ (zI p3) then p1 else if (zI p1) = (-1) then p2 else if (zI p1) ≤ (zI p2) then p1 else p2
set_option maxHeartbeats 4000000 in
set_option maxRecDepth 100000 in
theorem wk_X4_sooner {X : xX} {Qf : Int → State → Prop} {p1 : Int} {p2 : Int} {p3 : Int} {σ : xS} (C : xCx X cX4_sooner "BakeryNight$Night" (some .int) { frames := 0, cells := 0, slots := 0, locals := 0 } 3) (hQ : ∀ v, Qf v = xQf X WW (some (iV v), σ))  : WO X Qf WW σ 0 [(0, iV p1), (1, iV p2), (2, iV p3)] [] (some (m_X4_sooner p1 p2 p3)) := by
  refine x_iload_n C 1 dX4_sooner_0 rfl rfl ?_
  refine x_iload_n C 2 dX4_sooner_1 rfl rfl ?_
  refine x_icmp_le C 19 rfl rfl dX4_sooner_2 rfl (fun c1 => ?_) (fun c1 => ?_)
  · refine x_iload_n C 0 dX4_sooner_19 rfl rfl ?_
    exact x_leafR (by unfold m_X4_sooner; rw [if_pos c1]) (x_iretQ C (hQ _) rfl dX4_sooner_20)
  · refine x_iload_n C 0 dX4_sooner_5 rfl rfl ?_
    refine x_iconst C (-1) dX4_sooner_6 rfl ?_
    refine x_icmp_eq C 15 rfl (zIl _ rfl) dX4_sooner_7 rfl (fun c2 => ?_) (fun c2 => ?_)
    · refine x_iload_n C 1 dX4_sooner_15 rfl rfl ?_
      refine x_goto C 20 dX4_sooner_16 rfl ?_
      exact x_leafR (by unfold m_X4_sooner; rw [if_neg c1, if_pos c2]) (x_iretQ C (hQ _) rfl dX4_sooner_20)
    · refine x_iload_n C 1 dX4_sooner_10 rfl rfl ?_
      refine x_iload_n C 0 dX4_sooner_11 rfl rfl ?_
      refine x_icmp_ge C 19 rfl rfl dX4_sooner_12 rfl (fun c3 => ?_) (fun c3 => ?_)
      · refine x_iload_n C 0 dX4_sooner_19 rfl rfl ?_
        exact x_leafR (by unfold m_X4_sooner; rw [if_neg c1, if_neg c2, if_pos c3]) (x_iretQ C (hQ _) rfl dX4_sooner_20)
      · refine x_iload_n C 1 dX4_sooner_15 rfl rfl ?_
        refine x_goto C 20 dX4_sooner_16 rfl ?_
        exact x_leafR (by unfold m_X4_sooner; rw [if_neg c1, if_neg c2, if_neg c3]) (x_iretQ C (hQ _) rfl dX4_sooner_20)
theorem ct_X4_sooner (l : Launch) (E : xE) (p1 : Int) (p2 : Int) (p3 : Int)  (σ : xS) : xMet l E yX4_sooner cX4_sooner 3 (some .int) { frames := 0, cells := 0, slots := 0, locals := 0 } [iV p1, iV p2, iV p3] WW WW σ (some (some (iV (m_X4_sooner p1 p2 p3)), σ)) := by
  refine xMet.of0 (by decide) (Nat.le_of_ble_eq_true rfl) rfl rfl (fun X hE C => ?_)
  subst hE
  exact xMap (fun v => (some (iV v), σ)) (wk_X4_sooner C (fun _ => rfl) )
theorem mt_X4_sooner : xMth yX4_sooner cX4_sooner 3 (some .int) 3 := ⟨wd734, wd60, ⟨by decide, by decide, rfl⟩⟩
theorem st_X4_sooner : Cond.static yX4_sooner ∈ GW := wd733
def m_X4_nextMinute (n : Nat) (k0 : Nat) (k1 : Nat) (p2 : Int) (σ : xS) : Option Int :=
  xlet (-1) fun v1 => loopF (fun rec3 (t2 : Int × Int) => if (zI (σ k0 2)) ≤ (zI t2.2) then loopF (fun rec7 (t6 : Int × Int) => if (zI (σ k0 13)) ≤ (zI t6.2) then loopF (fun rec11 (t10 : Int × Int) => if (zI (σ k1 7)) ≤ (zI t10.2) then some t10.1 else xck (zI t10.2) 4 <| xlet (m_X4_sooner t10.1 (σ (k0 + 16) (zI t10.2).toNat) p2) fun v14 => xlet (t10.2 + 1) fun v15 => rec11 (v14, v15)) n (t6.1, 0) else xck (zI t6.2) 60 <| xlet (σ (k0 + 14) (zI t6.2).toNat) fun v16 => xck (zI v16) 60 <| xck (zI v16) 60 <| xck (zI (σ (k0 + 1) (zI v16).toNat)) 6 <| xlet (m_X4_sooner t6.1 (((σ (k0 + 11) (zI v16).toNat) + (σ (k1 + 2 + (zI (σ (k0 + 1) (zI v16).toNat)).toNat) 4)) + 1) p2) fun v18 => xlet (t6.2 + 1) fun v19 => rec7 (v18, v19)) n (t2.1, 0) else xck 1 6 <| xck (zI t2.2) 60 <| xlet (m_X4_sooner t2.1 (σ (k0 + 4 + (1 : Int).toNat) (zI t2.2).toNat) p2) fun v21 => xck (zI t2.2) 60 <| xlet (m_X4_sooner v21 (σ (k0 + 10) (zI t2.2).toNat) p2) fun v22 => xck 3 6 <| xck (zI t2.2) 60 <| xlet (m_X4_sooner v22 (σ (k0 + 4 + (3 : Int).toNat) (zI t2.2).toNat) p2) fun v24 => xck (zI t2.2) 60 <| xlet (m_X4_sooner v24 (σ (k0 + 11) (zI t2.2).toNat) p2) fun v25 => xck 5 6 <| xck (zI t2.2) 60 <| xlet (m_X4_sooner v25 (σ (k0 + 4 + (5 : Int).toNat) (zI t2.2).toNat) p2) fun v27 => xlet (t2.2 + 1) fun v28 => rec3 (v27, v28)) n (v1, 0)
set_option maxHeartbeats 4000000 in
set_option maxRecDepth 100000 in
theorem wk_X4_nextMinute {X : xX} {Qf : Int → State → Prop} {n : Nat} {k0 : Nat} {k1 : Nat} {p2 : Int} {σ : xS} (C : xCx X cX4_nextMinute "BakeryNight$Night" (some .int) { frames := 1, cells := 0, slots := 0, locals := 22 } 6) (hQ : ∀ v, Qf v = xQf X WW (some (iV v), σ)) (hk0 : isNt k0) (hk1 : isBk k1) : WO X Qf WW σ 0 [(0, .ref (xqa (xXE X).2.2 k0)), (1, .ref (xqa (xXE X).2.2 k1)), (2, iV p2)] [] (m_X4_nextMinute n k0 k1 p2 σ) := by
  unfold m_X4_nextMinute
  refine x_iconst C (-1) dX4_nextMinute_0 rfl ?_
  refine x_letI (fun v1 => ?_)
  refine x_istore_n (L' := [(3, _), (0, _), (1, _), (2, _)]) C dX4_nextMinute_1 rfl (by decide) rfl ?_
  refine x_iconst C (0) dX4_nextMinute_2 rfl ?_
  refine x_istore (L' := [(4, _), (3, _), (0, _), (1, _), (2, _)]) C dX4_nextMinute_3 (by decide) rfl ?_
  refine x_pick [2, 3, 4, 1, 0] rfl ?_
  refine x_loop (fun t2 : Int × Int => σ) (fun t2 : Int × Int => [(0, .ref (xqa (xXE X).2.2 k0)), (1, .ref (xqa (xXE X).2.2 k1)), (2, iV p2), (3, iV t2.1), (4, iV t2.2)]) (fun rec3 hr4 t2 => ?_) n (v1, 0)
  refine x_iload C 4 dX4_nextMinute_5 rfl ?_
  refine x_aload_n C 0 dX4_nextMinute_7 rfl rfl ?_
  refine x_get (v := iV (σ k0 2)) C 2 cls_X4 (at_X4 hk0) (by decide) wd448 rfl rfl dX4_nextMinute_8 ?_
  refine x_icmp_ge C 91 rfl rfl dX4_nextMinute_11 rfl (fun c5 => x_op c5 ?_) (fun c5 => x_on c5 ?_)
  · refine x_iconst C (0) dX4_nextMinute_91 rfl ?_
    refine x_istore (L' := [(4, _), (0, _), (1, _), (2, _), (3, _)]) C dX4_nextMinute_92 (by decide) rfl ?_
    refine x_pick [1, 2, 3, 4, 0] rfl ?_
    refine x_loop (fun t6 : Int × Int => σ) (fun t6 : Int × Int => [(0, .ref (xqa (xXE X).2.2 k0)), (1, .ref (xqa (xXE X).2.2 k1)), (2, iV p2), (3, iV t6.1), (4, iV t6.2)]) (fun rec7 hr8 t6 => ?_) n (t2.1, 0)
    refine x_iload C 4 dX4_nextMinute_94 rfl ?_
    refine x_aload_n C 0 dX4_nextMinute_96 rfl rfl ?_
    refine x_get (v := iV (σ k0 13)) C 13 cls_X4 (at_X4 hk0) (by decide) wd462 rfl rfl dX4_nextMinute_97 ?_
    refine x_icmp_ge C 149 rfl rfl dX4_nextMinute_100 rfl (fun c9 => x_op c9 ?_) (fun c9 => x_on c9 ?_)
    · refine x_iconst C (0) dX4_nextMinute_149 rfl ?_
      refine x_istore (L' := [(4, _), (0, _), (1, _), (2, _), (3, _)]) C dX4_nextMinute_150 (by decide) rfl ?_
      refine x_pick [1, 2, 3, 4, 0] rfl ?_
      refine x_loop (fun t10 : Int × Int => σ) (fun t10 : Int × Int => [(0, .ref (xqa (xXE X).2.2 k0)), (1, .ref (xqa (xXE X).2.2 k1)), (2, iV p2), (3, iV t10.1), (4, iV t10.2)]) (fun rec11 hr12 t10 => ?_) n (t6.1, 0)
      refine x_iload C 4 dX4_nextMinute_152 rfl ?_
      refine x_aload_n C 1 dX4_nextMinute_154 rfl rfl ?_
      refine x_get (v := iV (σ k1 7)) C 7 cls_X1 (at_X1 hk1) (by decide) wd362 rfl rfl dX4_nextMinute_155 ?_
      refine x_icmp_ge C 180 rfl rfl dX4_nextMinute_158 rfl (fun c13 => x_op c13 ?_) (fun c13 => x_on c13 ?_)
      · refine x_iload_n C 3 dX4_nextMinute_180 rfl rfl ?_
        exact x_iretQ C (hQ _) rfl dX4_nextMinute_181
      · refine x_iload_n C 3 dX4_nextMinute_161 rfl rfl ?_
        refine x_aload_n C 0 dX4_nextMinute_162 rfl rfl ?_
        refine x_get (v := .ref (xqa (xXE X).2.2 (k0 + 16))) C 15 cls_X4 (at_X4 hk0) (by decide) wd464 rfl (xV_r (rt_X4_steady hk0 _) rfl) dX4_nextMinute_163 ?_
        refine x_iload C 4 dX4_nextMinute_166 rfl ?_
        refine x_iald C (at_X4_steady hk0) rfl dX4_nextMinute_168 (fun _ => ?_)
        refine x_iload_n C 2 dX4_nextMinute_169 rfl rfl ?_
        refine x_callS C (ct_X4_sooner _ _ t10.1 (σ (k0 + 16) (zI t10.2).toNat) p2 σ) mt_X4_sooner st_X4_sooner wd732 rfl ⟨rfl, rfl, Nat.le_of_ble_eq_true rfl, Nat.le_of_ble_eq_true rfl⟩ rfl (by decide) dX4_nextMinute_170 (kP ?_)
        refine x_letI (fun v14 => ?_)
        refine x_istore_n (L' := [(3, _), (0, _), (1, _), (2, _), (4, _)]) C dX4_nextMinute_173 rfl (by decide) rfl ?_
        refine x_inc C 4 (f := _) dX4_nextMinute_174 rfl (by decide) (1) rfl (fun v15 => ?_)
        refine x_reL (L' := [(4, _), (3, _), (0, _), (1, _), (2, _)]) rfl ?_
        refine x_goto C 152 dX4_nextMinute_177 rfl ?_
        refine x_pick [2, 3, 4, 1, 0] rfl ?_
        exact hr12 (v14, v15)
    · refine x_aload_n C 0 dX4_nextMinute_103 rfl rfl ?_
      refine x_get (v := .ref (xqa (xXE X).2.2 (k0 + 14))) C 12 cls_X4 (at_X4 hk0) (by decide) wd461 rfl (xV_r (rt_X4_toBake hk0 _) rfl) dX4_nextMinute_104 ?_
      refine x_iload C 4 dX4_nextMinute_107 rfl ?_
      refine x_iald C (at_X4_toBake hk0) rfl dX4_nextMinute_109 (fun _ => ?_)
      refine x_letI (fun v16 => ?_)
      refine x_istore (L' := [(5, _), (0, _), (1, _), (2, _), (3, _), (4, _)]) C dX4_nextMinute_110 (by decide) rfl ?_
      refine x_iload_n C 4 dX4_nextMinute_112 rfl rfl ?_
      refine x_aload_n C 1 dX4_nextMinute_113 rfl rfl ?_
      refine x_get (v := .ref (xqa (xXE X).2.2 (k0 + 11))) C 7 cls_X4 (at_X4 hk0) (by decide) wd456 rfl (xV_r (rt_X4_proofed hk0 _) rfl) dX4_nextMinute_114 ?_
      refine x_iload C 0 dX4_nextMinute_117 rfl ?_
      refine x_iald C (at_X4_proofed hk0) rfl dX4_nextMinute_119 (fun _ => ?_)
      refine x_aload_n C 2 dX4_nextMinute_120 rfl rfl ?_
      refine x_get (v := .ref (xqa (xXE X).2.2 (k1 + 1))) C 4 cls_X1 (at_X1 hk1) (by decide) wd350 rfl (xV_r (rt_X1_doughs hk1 _) rfl) dX4_nextMinute_121 ?_
      refine x_aload_n C 1 dX4_nextMinute_124 rfl rfl ?_
      refine x_get (v := .ref (xqa (xXE X).2.2 (k0 + 1))) C 3 cls_X4 (at_X4 hk0) (by decide) wd449 rfl (xV_r (rt_X4_dough hk0 _) rfl) dX4_nextMinute_125 ?_
      refine x_iload C 0 dX4_nextMinute_128 rfl ?_
      refine x_iald C (at_X4_dough hk0) rfl dX4_nextMinute_130 (fun _ => ?_)
      refine x_aald C (at_X1_doughs hk1) (by decide) rfl (fun h17 => rl_X1_doughs hk1 _ h17) dX4_nextMinute_131 (fun h17 => ?_)
      refine x_get (v := iV (σ (k1 + 2 + (zI (σ (k0 + 1) (zI v16).toNat)).toNat) 4)) C 4 cls_X2 (el_X1_doughs hk1 h17) (by decide) wd170 rfl rfl dX4_nextMinute_132 ?_
      refine x_iadd C dX4_nextMinute_135 ?_
      refine x_iconst C (1) dX4_nextMinute_136 rfl ?_
      refine x_iadd C dX4_nextMinute_137 ?_
      refine x_iload_n C 3 dX4_nextMinute_138 rfl rfl ?_
      refine x_callS C (ct_X4_sooner _ _ t6.1 (((σ (k0 + 11) (zI v16).toNat) + (σ (k1 + 2 + (zI (σ (k0 + 1) (zI v16).toNat)).toNat) 4)) + 1) p2 σ) mt_X4_sooner st_X4_sooner wd732 rfl ⟨rfl, rfl, Nat.le_of_ble_eq_true rfl, Nat.le_of_ble_eq_true rfl⟩ rfl (by decide) dX4_nextMinute_139 (kP ?_)
      refine x_letI (fun v18 => ?_)
      refine x_istore_n (L' := [(3, _), (5, _), (0, _), (1, _), (2, _), (4, _)]) C dX4_nextMinute_142 rfl (by decide) rfl ?_
      refine x_inc C 5 (f := _) dX4_nextMinute_143 rfl (by decide) (1) rfl (fun v19 => ?_)
      refine x_reL (L' := [(4, _), (3, _), (5, _), (0, _), (1, _), (2, _)]) rfl ?_
      refine x_goto C 94 dX4_nextMinute_146 rfl ?_
      refine x_pick [3, 4, 5, 1, 0] rfl ?_
      exact hr8 (v18, v19)
  · refine x_iload_n C 3 dX4_nextMinute_14 rfl rfl ?_
    refine x_aload_n C 0 dX4_nextMinute_15 rfl rfl ?_
    refine x_get (v := .ref (xqa (xXE X).2.2 (k0 + 3))) C 5 cls_X4 (at_X4 hk0) (by decide) wd453 rfl (xV_r (rt_X4_begun hk0 _) rfl) dX4_nextMinute_16 ?_
    refine x_iconst C (1) dX4_nextMinute_19 rfl ?_
    refine x_aald C (at_X4_begun hk0) (by decide) (zIl _ rfl) (fun h20 => rl_X4_begun hk0 _ h20) dX4_nextMinute_20 (fun h20 => ?_)
    refine x_iload C 4 dX4_nextMinute_21 rfl ?_
    refine x_iald C (el_X4_begun hk0 h20) rfl dX4_nextMinute_23 (fun _ => ?_)
    refine x_iload_n C 2 dX4_nextMinute_24 rfl rfl ?_
    refine x_callS C (ct_X4_sooner _ _ t2.1 (σ (k0 + 4 + (1 : Int).toNat) (zI t2.2).toNat) p2 σ) mt_X4_sooner st_X4_sooner wd732 rfl ⟨rfl, rfl, Nat.le_of_ble_eq_true rfl, Nat.le_of_ble_eq_true rfl⟩ rfl (by decide) dX4_nextMinute_25 (kP ?_)
    refine x_letI (fun v21 => ?_)
    refine x_istore_n (L' := [(3, _), (0, _), (1, _), (2, _), (4, _)]) C dX4_nextMinute_28 rfl (by decide) rfl ?_
    refine x_iload_n C 0 dX4_nextMinute_29 rfl rfl ?_
    refine x_aload_n C 1 dX4_nextMinute_30 rfl rfl ?_
    refine x_get (v := .ref (xqa (xXE X).2.2 (k0 + 10))) C 6 cls_X4 (at_X4 hk0) (by decide) wd455 rfl (xV_r (rt_X4_risen hk0 _) rfl) dX4_nextMinute_31 ?_
    refine x_iload C 4 dX4_nextMinute_34 rfl ?_
    refine x_iald C (at_X4_risen hk0) rfl dX4_nextMinute_36 (fun _ => ?_)
    refine x_iload_n C 3 dX4_nextMinute_37 rfl rfl ?_
    refine x_callS C (ct_X4_sooner _ _ v21 (σ (k0 + 10) (zI t2.2).toNat) p2 σ) mt_X4_sooner st_X4_sooner wd732 rfl ⟨rfl, rfl, Nat.le_of_ble_eq_true rfl, Nat.le_of_ble_eq_true rfl⟩ rfl (by decide) dX4_nextMinute_38 (kP ?_)
    refine x_letI (fun v22 => ?_)
    refine x_istore_n (L' := [(3, _), (0, _), (1, _), (2, _), (4, _)]) C dX4_nextMinute_41 rfl (by decide) rfl ?_
    refine x_iload_n C 0 dX4_nextMinute_42 rfl rfl ?_
    refine x_aload_n C 1 dX4_nextMinute_43 rfl rfl ?_
    refine x_get (v := .ref (xqa (xXE X).2.2 (k0 + 3))) C 5 cls_X4 (at_X4 hk0) (by decide) wd453 rfl (xV_r (rt_X4_begun hk0 _) rfl) dX4_nextMinute_44 ?_
    refine x_iconst C (3) dX4_nextMinute_47 rfl ?_
    refine x_aald C (at_X4_begun hk0) (by decide) (zIl _ rfl) (fun h23 => rl_X4_begun hk0 _ h23) dX4_nextMinute_48 (fun h23 => ?_)
    refine x_iload C 4 dX4_nextMinute_49 rfl ?_
    refine x_iald C (el_X4_begun hk0 h23) rfl dX4_nextMinute_51 (fun _ => ?_)
    refine x_iload_n C 3 dX4_nextMinute_52 rfl rfl ?_
    refine x_callS C (ct_X4_sooner _ _ v22 (σ (k0 + 4 + (3 : Int).toNat) (zI t2.2).toNat) p2 σ) mt_X4_sooner st_X4_sooner wd732 rfl ⟨rfl, rfl, Nat.le_of_ble_eq_true rfl, Nat.le_of_ble_eq_true rfl⟩ rfl (by decide) dX4_nextMinute_53 (kP ?_)
    refine x_letI (fun v24 => ?_)
    refine x_istore_n (L' := [(3, _), (0, _), (1, _), (2, _), (4, _)]) C dX4_nextMinute_56 rfl (by decide) rfl ?_
    refine x_iload_n C 0 dX4_nextMinute_57 rfl rfl ?_
    refine x_aload_n C 1 dX4_nextMinute_58 rfl rfl ?_
    refine x_get (v := .ref (xqa (xXE X).2.2 (k0 + 11))) C 7 cls_X4 (at_X4 hk0) (by decide) wd456 rfl (xV_r (rt_X4_proofed hk0 _) rfl) dX4_nextMinute_59 ?_
    refine x_iload C 4 dX4_nextMinute_62 rfl ?_
    refine x_iald C (at_X4_proofed hk0) rfl dX4_nextMinute_64 (fun _ => ?_)
    refine x_iload_n C 3 dX4_nextMinute_65 rfl rfl ?_
    refine x_callS C (ct_X4_sooner _ _ v24 (σ (k0 + 11) (zI t2.2).toNat) p2 σ) mt_X4_sooner st_X4_sooner wd732 rfl ⟨rfl, rfl, Nat.le_of_ble_eq_true rfl, Nat.le_of_ble_eq_true rfl⟩ rfl (by decide) dX4_nextMinute_66 (kP ?_)
    refine x_letI (fun v25 => ?_)
    refine x_istore_n (L' := [(3, _), (0, _), (1, _), (2, _), (4, _)]) C dX4_nextMinute_69 rfl (by decide) rfl ?_
    refine x_iload_n C 0 dX4_nextMinute_70 rfl rfl ?_
    refine x_aload_n C 1 dX4_nextMinute_71 rfl rfl ?_
    refine x_get (v := .ref (xqa (xXE X).2.2 (k0 + 3))) C 5 cls_X4 (at_X4 hk0) (by decide) wd453 rfl (xV_r (rt_X4_begun hk0 _) rfl) dX4_nextMinute_72 ?_
    refine x_iconst C (5) dX4_nextMinute_75 rfl ?_
    refine x_aald C (at_X4_begun hk0) (by decide) (zIl _ rfl) (fun h26 => rl_X4_begun hk0 _ h26) dX4_nextMinute_76 (fun h26 => ?_)
    refine x_iload C 4 dX4_nextMinute_77 rfl ?_
    refine x_iald C (el_X4_begun hk0 h26) rfl dX4_nextMinute_79 (fun _ => ?_)
    refine x_iload_n C 3 dX4_nextMinute_80 rfl rfl ?_
    refine x_callS C (ct_X4_sooner _ _ v25 (σ (k0 + 4 + (5 : Int).toNat) (zI t2.2).toNat) p2 σ) mt_X4_sooner st_X4_sooner wd732 rfl ⟨rfl, rfl, Nat.le_of_ble_eq_true rfl, Nat.le_of_ble_eq_true rfl⟩ rfl (by decide) dX4_nextMinute_81 (kP ?_)
    refine x_letI (fun v27 => ?_)
    refine x_istore_n (L' := [(3, _), (0, _), (1, _), (2, _), (4, _)]) C dX4_nextMinute_84 rfl (by decide) rfl ?_
    refine x_inc C 4 (f := _) dX4_nextMinute_85 rfl (by decide) (1) rfl (fun v28 => ?_)
    refine x_reL (L' := [(4, _), (3, _), (0, _), (1, _), (2, _)]) rfl ?_
    refine x_goto C 5 dX4_nextMinute_88 rfl ?_
    refine x_pick [2, 3, 4, 1, 0] rfl ?_
    exact hr4 (v27, v28)
theorem ct_X4_nextMinute (l : Launch) (E : xE) (n : Nat) (k0 : Nat) (k1 : Nat) (p2 : Int) (σ : xS) (hk0 : isNt k0) (hk1 : isBk k1)  : xMet l E yX4_nextMinute cX4_nextMinute 6 (some .int) { frames := 1, cells := 0, slots := 0, locals := 22 } [.ref (xqa E.2.2 k0), .ref (xqa E.2.2 k1), iV p2] WW WW σ (xrI (m_X4_nextMinute n k0 k1 p2 σ) σ) := by
  refine xMet.of0 (by decide) (Nat.le_of_ble_eq_true rfl) rfl rfl (fun X hE C => ?_)
  subst hE
  exact xMap (fun v => (some (iV v), σ)) (wk_X4_nextMinute C (fun _ => rfl) hk0 hk1)
theorem mt_X4_nextMinute : xMth yX4_nextMinute cX4_nextMinute 6 (some .int) 2 := ⟨wd731, wd60, ⟨by decide, by decide, rfl⟩⟩
theorem vr_X4_nextMinute : xVir yX4_nextMinute := ⟨wd730, wd13⟩
def m_X4_takenOut (n : Nat) (k0 : Nat) (k1 : Nat) (p2 : Int) (p3 : Int) (σ : xS) : Option Int :=
  loopF (fun rec2 (t1 : Int × Int) => if (zI (σ k0 2)) ≤ (zI t1.2) then some (-1) else xck (zI t1.2) 60 <| xj (fun (q8 : Int) => xlet (t1.2 + 1) fun v9 => rec2 (q8, v9)) fun J6 => if (zI (σ (k0 + 1) (zI t1.2).toNat)) = (zI p2) then xck 5 6 <| xck (zI t1.2) 60 <| if (zI (σ (k0 + 4 + (5 : Int).toNat) (zI t1.2).toNat)) = (-1) then J6 t1.1 else xck (zI p2) 6 <| xlet (t1.1 + (σ (k1 + 2 + (zI p2).toNat) 7)) fun v14 => if (zI v14) ≤ (zI p3) then J6 v14 else xck 5 6 <| xck (zI t1.2) 60 <| some (σ (k0 + 4 + (5 : Int).toNat) (zI t1.2).toNat) else J6 t1.1) n (0, 0)
set_option maxHeartbeats 4000000 in
set_option maxRecDepth 100000 in
theorem wk_X4_takenOut {X : xX} {Qf : Int → State → Prop} {n : Nat} {k0 : Nat} {k1 : Nat} {p2 : Int} {p3 : Int} {σ : xS} (C : xCx X cX4_takenOut "BakeryNight$Night" (some .int) { frames := 0, cells := 0, slots := 0, locals := 0 } 6) (hQ : ∀ v, Qf v = xQf X WW (some (iV v), σ)) (hk0 : isNt k0) (hk1 : isBk k1) : WO X Qf WW σ 0 [(0, .ref (xqa (xXE X).2.2 k0)), (1, .ref (xqa (xXE X).2.2 k1)), (2, iV p2), (3, iV p3)] [] (m_X4_takenOut n k0 k1 p2 p3 σ) := by
  unfold m_X4_takenOut
  refine x_iconst C (0) dX4_takenOut_0 rfl ?_
  refine x_istore (L' := [(4, _), (0, _), (1, _), (2, _), (3, _)]) C dX4_takenOut_1 (by decide) rfl ?_
  refine x_iconst C (0) dX4_takenOut_3 rfl ?_
  refine x_istore (L' := [(5, _), (4, _), (0, _), (1, _), (2, _), (3, _)]) C dX4_takenOut_4 (by decide) rfl ?_
  refine x_pick [2, 3, 4, 5, 1, 0] rfl ?_
  refine x_loop (fun t1 : Int × Int => σ) (fun t1 : Int × Int => [(0, .ref (xqa (xXE X).2.2 k0)), (1, .ref (xqa (xXE X).2.2 k1)), (2, iV p2), (3, iV p3), (4, iV t1.1), (5, iV t1.2)]) (fun rec2 hr3 t1 => ?_) n (0, 0)
  refine x_iload C 5 dX4_takenOut_6 rfl ?_
  refine x_aload_n C 0 dX4_takenOut_8 rfl rfl ?_
  refine x_get (v := iV (σ k0 2)) C 2 cls_X4 (at_X4 hk0) (by decide) wd448 rfl rfl dX4_takenOut_9 ?_
  refine x_icmp_ge C 75 rfl rfl dX4_takenOut_12 rfl (fun c4 => x_op c4 ?_) (fun c4 => x_on c4 ?_)
  · refine x_iconst C (-1) dX4_takenOut_75 rfl ?_
    exact x_iretQ C (hQ _) rfl dX4_takenOut_76
  · refine x_aload_n C 0 dX4_takenOut_15 rfl rfl ?_
    refine x_get (v := .ref (xqa (xXE X).2.2 (k0 + 1))) C 3 cls_X4 (at_X4 hk0) (by decide) wd449 rfl (xV_r (rt_X4_dough hk0 _) rfl) dX4_takenOut_16 ?_
    refine x_iload C 5 dX4_takenOut_19 rfl ?_
    refine x_iald C (at_X4_dough hk0) rfl dX4_takenOut_21 (fun _ => ?_)
    refine x_iload_n C 2 dX4_takenOut_22 rfl rfl ?_
    refine x_join (fun J => ∀ q8 : Int, WO X Qf WW σ 69 [(0, .ref (xqa (xXE X).2.2 k0)), (1, .ref (xqa (xXE X).2.2 k1)), (2, iV p2), (3, iV p3), (4, iV q8), (5, iV t1.2)] [] (J q8)) ?_ ?_
    · intro q8
      refine x_inc C 5 (f := _) dX4_takenOut_69 rfl (by decide) (1) rfl (fun v9 => ?_)
      refine x_reL (L' := [(5, _), (0, _), (1, _), (2, _), (3, _), (4, _)]) rfl ?_
      refine x_goto C 6 dX4_takenOut_72 rfl ?_
      refine x_pick [1, 2, 3, 4, 5, 0] rfl ?_
      exact hr3 (q8, v9)
    · intro J6 hJ7
      refine x_icmp_ne C 69 rfl rfl dX4_takenOut_23 rfl (fun c10 => x_on c10 ?_) (fun c10 => x_op c10 ?_)
      · refine x_pick [0, 1, 2, 3, 4, 5] rfl ?_
        exact hJ7 t1.1
      · refine x_aload_n C 0 dX4_takenOut_26 rfl rfl ?_
        refine x_get (v := .ref (xqa (xXE X).2.2 (k0 + 3))) C 5 cls_X4 (at_X4 hk0) (by decide) wd453 rfl (xV_r (rt_X4_begun hk0 _) rfl) dX4_takenOut_27 ?_
        refine x_iconst C (5) dX4_takenOut_30 rfl ?_
        refine x_aald C (at_X4_begun hk0) (by decide) (zIl _ rfl) (fun h11 => rl_X4_begun hk0 _ h11) dX4_takenOut_31 (fun h11 => ?_)
        refine x_iload C 5 dX4_takenOut_32 rfl ?_
        refine x_iald C (el_X4_begun hk0 h11) rfl dX4_takenOut_34 (fun _ => ?_)
        refine x_iconst C (-1) dX4_takenOut_35 rfl ?_
        refine x_icmp_eq C 69 rfl (zIl _ rfl) dX4_takenOut_36 rfl (fun c12 => x_op c12 ?_) (fun c12 => x_on c12 ?_)
        · refine x_pick [0, 1, 2, 3, 4, 5] rfl ?_
          exact hJ7 t1.1
        · refine x_iload C 4 dX4_takenOut_39 rfl ?_
          refine x_aload_n C 1 dX4_takenOut_41 rfl rfl ?_
          refine x_get (v := .ref (xqa (xXE X).2.2 (k1 + 1))) C 4 cls_X1 (at_X1 hk1) (by decide) wd350 rfl (xV_r (rt_X1_doughs hk1 _) rfl) dX4_takenOut_42 ?_
          refine x_iload_n C 2 dX4_takenOut_45 rfl rfl ?_
          refine x_aald C (at_X1_doughs hk1) (by decide) rfl (fun h13 => rl_X1_doughs hk1 _ h13) dX4_takenOut_46 (fun h13 => ?_)
          refine x_get (v := iV (σ (k1 + 2 + (zI p2).toNat) 7)) C 7 cls_X2 (el_X1_doughs hk1 h13) (by decide) wd178 rfl rfl dX4_takenOut_47 ?_
          refine x_iadd C dX4_takenOut_50 ?_
          refine x_letI (fun v14 => ?_)
          refine x_istore (L' := [(4, _), (0, _), (1, _), (2, _), (3, _), (5, _)]) C dX4_takenOut_51 (by decide) rfl ?_
          refine x_iload_n C 4 dX4_takenOut_53 rfl rfl ?_
          refine x_iload C 0 dX4_takenOut_54 rfl ?_
          refine x_icmp_ge C 69 rfl rfl dX4_takenOut_56 rfl (fun c15 => x_op c15 ?_) (fun c15 => x_on c15 ?_)
          · refine x_pick [1, 2, 3, 4, 0, 5] rfl ?_
            exact hJ7 v14
          · refine x_aload_n C 1 dX4_takenOut_59 rfl rfl ?_
            refine x_get (v := .ref (xqa (xXE X).2.2 (k0 + 3))) C 5 cls_X4 (at_X4 hk0) (by decide) wd453 rfl (xV_r (rt_X4_begun hk0 _) rfl) dX4_takenOut_60 ?_
            refine x_iconst C (5) dX4_takenOut_63 rfl ?_
            refine x_aald C (at_X4_begun hk0) (by decide) (zIl _ rfl) (fun h16 => rl_X4_begun hk0 _ h16) dX4_takenOut_64 (fun h16 => ?_)
            refine x_iload C 5 dX4_takenOut_65 rfl ?_
            refine x_iald C (el_X4_begun hk0 h16) rfl dX4_takenOut_67 (fun _ => ?_)
            exact x_iretQ C (hQ _) rfl dX4_takenOut_68
theorem ct_X4_takenOut (l : Launch) (E : xE) (n : Nat) (k0 : Nat) (k1 : Nat) (p2 : Int) (p3 : Int) (σ : xS) (hk0 : isNt k0) (hk1 : isBk k1)  : xMet l E yX4_takenOut cX4_takenOut 6 (some .int) { frames := 0, cells := 0, slots := 0, locals := 0 } [.ref (xqa E.2.2 k0), .ref (xqa E.2.2 k1), iV p2, iV p3] WW WW σ (xrI (m_X4_takenOut n k0 k1 p2 p3 σ) σ) := by
  refine xMet.of0 (by decide) (Nat.le_of_ble_eq_true rfl) rfl rfl (fun X hE C => ?_)
  subst hE
  exact xMap (fun v => (some (iV v), σ)) (wk_X4_takenOut C (fun _ => rfl) hk0 hk1)
theorem mt_X4_takenOut : xMth yX4_takenOut cX4_takenOut 6 (some .int) 3 := ⟨wd751, wd60, ⟨by decide, by decide, rfl⟩⟩
theorem vr_X4_takenOut : xVir yX4_takenOut := ⟨wd750, wd16⟩
def m_X4_giveLoaves (n : Nat) (k0 : Nat) (k1 : Nat) (σ : xS) : Option xS :=
  (m_J7_fill_53178 n (k0 + 19) 24 (-1) σ).bind fun s1 => (m_J7_fill_53178 n (k0 + 20) 24 (-1) s1).bind fun s2 => loopF (fun rec4 (t3 : Int × xS) => if (zI (t3.2 k1 13)) ≤ (zI t3.1) then some t3.2 else (m_X1_hasOrder k1 t3.1 t3.2).bind fun v7 => xj (fun (q11 : xS) => xlet (t3.1 + 1) fun v12 => rec4 (v12, q11)) fun J9 => if (zI v7) = 0 then J9 t3.2 else xck (zI t3.1) 24 <| xlet (t3.2 (k1 + 14 + (zI t3.1).toNat) 1) fun v15 => (m_X1_loavesAheadOf n k1 t3.1 t3.2).bind fun v16 => xck (zI t3.1) 24 <| (m_X4_takenOut n k0 k1 v15 ((v16 + (t3.2 (k1 + 14 + (zI t3.1).toNat) 2)) - 1) t3.2).bind fun v18 => (m_X4_takenOut n k0 k1 v15 v16 t3.2).bind fun v19 => xck (zI t3.1) 24 <| xlet (xput t3.2 (k0 + 20) (zI t3.1).toNat v19) fun s20 => xlet (if (zI v18) = (-1) then (-1) else v18 + (s20 k1 1)) fun v21 => xck (zI t3.1) 24 <| xlet (xput s20 (k0 + 19) (zI t3.1).toNat v21) fun s22 => J9 s22) n (0, s2)
set_option maxHeartbeats 4000000 in
set_option maxRecDepth 100000 in
theorem wk_X4_giveLoaves {X : xX} {Qf : xS → State → Prop} {n : Nat} {k0 : Nat} {k1 : Nat} {σ : xS} (C : xCx X cX4_giveLoaves "BakeryNight$Night" none { frames := 2, cells := 0, slots := 0, locals := 46 } 6) (hQ : ∀ τ, Qf τ = xQf X WW (none, τ)) (hk0 : isNt k0) (hk1 : isBk k1) : WO X Qf WW σ 0 [(0, .ref (xqa (xXE X).2.2 k0)), (1, .ref (xqa (xXE X).2.2 k1))] [] (m_X4_giveLoaves n k0 k1 σ) := by
  unfold m_X4_giveLoaves
  refine x_aload_n C 0 dX4_giveLoaves_0 rfl rfl ?_
  refine x_get (v := .ref (xqa (xXE X).2.2 (k0 + 19))) C 18 cls_X4 (at_X4 hk0) (by decide) wd468 rfl (xV_r (rt_X4_ready hk0 _) rfl) dX4_giveLoaves_1 ?_
  refine x_iconst C (-1) dX4_giveLoaves_4 rfl ?_
  refine x_callS C (ct_J7_fill_53178 _ _ n (k0 + 19) 24 (-1) σ (at_X4_ready hk0)) mt_J7_fill_53178 st_J7_fill_53178 wd661 rfl ⟨rfl, rfl, Nat.le_of_ble_eq_true rfl, Nat.le_of_ble_eq_true rfl⟩ rfl (by decide) dX4_giveLoaves_5 (kV (fun s1 => ?_))
  refine x_aload_n C 0 dX4_giveLoaves_8 rfl rfl ?_
  refine x_get (v := .ref (xqa (xXE X).2.2 (k0 + 20))) C 19 cls_X4 (at_X4 hk0) (by decide) wd471 rfl (xV_r (rt_X4_oldest hk0 _) rfl) dX4_giveLoaves_9 ?_
  refine x_iconst C (-1) dX4_giveLoaves_12 rfl ?_
  refine x_callS C (ct_J7_fill_53178 _ _ n (k0 + 20) 24 (-1) s1 (at_X4_oldest hk0)) mt_J7_fill_53178 st_J7_fill_53178 wd661 rfl ⟨rfl, rfl, Nat.le_of_ble_eq_true rfl, Nat.le_of_ble_eq_true rfl⟩ rfl (by decide) dX4_giveLoaves_13 (kV (fun s2 => ?_))
  refine x_iconst C (0) dX4_giveLoaves_16 rfl ?_
  refine x_istore_n (L' := [(2, _), (0, _), (1, _)]) C dX4_giveLoaves_17 rfl (by decide) rfl ?_
  refine x_pick [1, 2, 0] rfl ?_
  refine x_loop (fun t3 : Int × xS => t3.2) (fun t3 : Int × xS => [(0, .ref (xqa (xXE X).2.2 k0)), (1, .ref (xqa (xXE X).2.2 k1)), (2, iV t3.1)]) (fun rec4 hr5 t3 => ?_) n (0, s2)
  refine x_iload_n C 2 dX4_giveLoaves_18 rfl rfl ?_
  refine x_aload_n C 1 dX4_giveLoaves_19 rfl rfl ?_
  refine x_get (v := iV (t3.2 k1 13)) C 13 cls_X1 (at_X1 hk1) (by decide) wd388 rfl rfl dX4_giveLoaves_20 ?_
  refine x_icmp_ge C 116 rfl rfl dX4_giveLoaves_23 rfl (fun c6 => x_op c6 ?_) (fun c6 => x_on c6 ?_)
  · exact x_vretQ C (hQ _) rfl dX4_giveLoaves_116
  · refine x_aload_n C 1 dX4_giveLoaves_26 rfl rfl ?_
    refine x_iload_n C 2 dX4_giveLoaves_27 rfl rfl ?_
    refine x_callV C (ct_X1_hasOrder _ _ k1 t3.1 t3.2 hk1) mt_X1_hasOrder vr_X1_hasOrder wd739 cls_X1 (at_X1 hk1) rfl ⟨rfl, rfl, Nat.le_of_ble_eq_true rfl, Nat.le_of_ble_eq_true rfl⟩ rfl (by decide) dX4_giveLoaves_28 (kI (fun v7 => ?_))
    refine x_join (fun J => ∀ q11 : xS, WO X Qf WW q11 110 [(0, .ref (xqa (xXE X).2.2 k0)), (1, .ref (xqa (xXE X).2.2 k1)), (2, iV t3.1)] [] (J q11)) ?_ ?_
    · intro q11
      refine x_inc C 2 (f := _) dX4_giveLoaves_110 rfl (by decide) (1) rfl (fun v12 => ?_)
      refine x_reL (L' := [(2, _), (0, _), (1, _)]) rfl ?_
      refine x_goto C 18 dX4_giveLoaves_113 rfl ?_
      refine x_pick [1, 2, 0] rfl ?_
      exact hr5 (v12, q11)
    · intro J9 hJ10
      refine x_if_eq C 110 rfl dX4_giveLoaves_31 rfl (fun c13 => x_op c13 ?_) (fun c13 => x_on c13 ?_)
      · refine x_pick [0, 1, 2] rfl ?_
        exact hJ10 t3.2
      · refine x_aload_n C 1 dX4_giveLoaves_34 rfl rfl ?_
        refine x_get (v := .ref (xqa (xXE X).2.2 (k1 + 13))) C 12 cls_X1 (at_X1 hk1) (by decide) wd380 rfl (xV_r (rt_X1_orders hk1 _) rfl) dX4_giveLoaves_35 ?_
        refine x_iload_n C 2 dX4_giveLoaves_38 rfl rfl ?_
        refine x_aald C (at_X1_orders hk1) (by decide) rfl (fun h14 => rl_X1_orders hk1 _ h14) dX4_giveLoaves_39 (fun h14 => ?_)
        refine x_get (v := iV (t3.2 (k1 + 14 + (zI t3.1).toNat) 1)) C 1 cls_X5 (el_X1_orders hk1 h14) (by decide) wd242 rfl rfl dX4_giveLoaves_40 ?_
        refine x_letI (fun v15 => ?_)
        refine x_istore_n (L' := [(3, _), (0, _), (1, _), (2, _)]) C dX4_giveLoaves_43 rfl (by decide) rfl ?_
        refine x_aload_n C 2 dX4_giveLoaves_44 rfl rfl ?_
        refine x_iload_n C 3 dX4_giveLoaves_45 rfl rfl ?_
        refine x_callV C (ct_X1_loavesAheadOf _ _ n k1 t3.1 t3.2 hk1) mt_X1_loavesAheadOf vr_X1_loavesAheadOf wd740 cls_X1 (at_X1 hk1) rfl ⟨rfl, rfl, Nat.le_of_ble_eq_true rfl, Nat.le_of_ble_eq_true rfl⟩ rfl (by decide) dX4_giveLoaves_46 (kI (fun v16 => ?_))
        refine x_istore (L' := [(4, _), (3, _), (0, _), (1, _), (2, _)]) C dX4_giveLoaves_49 (by decide) rfl ?_
        refine x_aload_n C 2 dX4_giveLoaves_51 rfl rfl ?_
        refine x_aload_n C 3 dX4_giveLoaves_52 rfl rfl ?_
        refine x_iload_n C 1 dX4_giveLoaves_53 rfl rfl ?_
        refine x_iload C 0 dX4_giveLoaves_54 rfl ?_
        refine x_aload_n C 3 dX4_giveLoaves_56 rfl rfl ?_
        refine x_get (v := .ref (xqa (xXE X).2.2 (k1 + 13))) C 12 cls_X1 (at_X1 hk1) (by decide) wd380 rfl (xV_r (rt_X1_orders hk1 _) rfl) dX4_giveLoaves_57 ?_
        refine x_iload_n C 4 dX4_giveLoaves_60 rfl rfl ?_
        refine x_aald C (at_X1_orders hk1) (by decide) rfl (fun h17 => rl_X1_orders hk1 _ h17) dX4_giveLoaves_61 (fun h17 => ?_)
        refine x_get (v := iV (t3.2 (k1 + 14 + (zI t3.1).toNat) 2)) C 2 cls_X5 (el_X1_orders hk1 h17) (by decide) wd246 rfl rfl dX4_giveLoaves_62 ?_
        refine x_iadd C dX4_giveLoaves_65 ?_
        refine x_iconst C (1) dX4_giveLoaves_66 rfl ?_
        refine x_isub C dX4_giveLoaves_67 ?_
        refine x_callV C (ct_X4_takenOut _ _ n k0 k1 v15 ((v16 + (t3.2 (k1 + 14 + (zI t3.1).toNat) 2)) - 1) t3.2 hk0 hk1) mt_X4_takenOut vr_X4_takenOut wd748 cls_X4 (at_X4 hk0) rfl ⟨rfl, rfl, Nat.le_of_ble_eq_true rfl, Nat.le_of_ble_eq_true rfl⟩ rfl (by decide) dX4_giveLoaves_68 (kI (fun v18 => ?_))
        refine x_istore (L' := [(5, _), (4, _), (3, _), (0, _), (1, _), (2, _)]) C dX4_giveLoaves_71 (by decide) rfl ?_
        refine x_aload_n C 3 dX4_giveLoaves_73 rfl rfl ?_
        refine x_get (v := .ref (xqa (xXE X).2.2 (k0 + 20))) C 19 cls_X4 (at_X4 hk0) (by decide) wd471 rfl (xV_r (rt_X4_oldest hk0 _) rfl) dX4_giveLoaves_74 ?_
        refine x_iload_n C 5 dX4_giveLoaves_77 rfl rfl ?_
        refine x_aload_n C 3 dX4_giveLoaves_78 rfl rfl ?_
        refine x_aload_n C 4 dX4_giveLoaves_79 rfl rfl ?_
        refine x_iload_n C 2 dX4_giveLoaves_80 rfl rfl ?_
        refine x_iload C 1 dX4_giveLoaves_81 rfl ?_
        refine x_callV C (ct_X4_takenOut _ _ n k0 k1 v15 v16 t3.2 hk0 hk1) mt_X4_takenOut vr_X4_takenOut wd748 cls_X4 (at_X4 hk0) rfl ⟨rfl, rfl, Nat.le_of_ble_eq_true rfl, Nat.le_of_ble_eq_true rfl⟩ rfl (Nat.le_of_ble_eq_true rfl) dX4_giveLoaves_83 (kI (fun v19 => ?_))
        refine x_iast C (at_X4_oldest hk0) rfl dX4_giveLoaves_86 (fun _ => ?_)
        refine x_letS (fun s20 => ?_)
        refine x_aload_n C 3 dX4_giveLoaves_87 rfl rfl ?_
        refine x_get (v := .ref (xqa (xXE X).2.2 (k0 + 19))) C 18 cls_X4 (at_X4 hk0) (by decide) wd468 rfl (xV_r (rt_X4_ready hk0 _) rfl) dX4_giveLoaves_88 ?_
        refine x_iload_n C 5 dX4_giveLoaves_91 rfl rfl ?_
        refine x_iload C 0 dX4_giveLoaves_92 rfl ?_
        refine x_iconst C (-1) dX4_giveLoaves_94 rfl ?_
        refine x_tree 109 [iV t3.1, .ref (xqa (xXE X).2.2 (k0 + 19))] (fun v21 => ?_) (fun hJ23 => ?_)
        · refine x_iast C (at_X4_ready hk0) rfl dX4_giveLoaves_109 (fun _ => ?_)
          refine x_letS (fun s22 => ?_)
          refine x_pick [3, 4, 5] rfl ?_
          exact hJ10 s22
        · refine x_icmp_ne C 102 rfl (zIl _ rfl) dX4_giveLoaves_95 rfl (fun c24 => ?_) (fun c24 => ?_)
          · refine x_iload C 0 dX4_giveLoaves_102 rfl ?_
            refine x_aload_n C 4 dX4_giveLoaves_104 rfl rfl ?_
            refine x_get (v := iV (s20 k1 1)) C 1 cls_X1 (at_X1 hk1) (by decide) wd342 rfl rfl dX4_giveLoaves_105 ?_
            refine x_iadd C dX4_giveLoaves_108 ?_
            exact hJ23 _ (by rw [if_neg c24])
          · refine x_iconst C (-1) dX4_giveLoaves_98 rfl ?_
            refine x_goto C 109 dX4_giveLoaves_99 rfl ?_
            exact hJ23 _ (by rw [if_pos c24])
theorem ct_X4_giveLoaves (l : Launch) (E : xE) (n : Nat) (k0 : Nat) (k1 : Nat) (σ : xS) (hk0 : isNt k0) (hk1 : isBk k1)  : xMet l E yX4_giveLoaves cX4_giveLoaves 6 none { frames := 2, cells := 0, slots := 0, locals := 46 } [.ref (xqa E.2.2 k0), .ref (xqa E.2.2 k1)] WW WW σ (xrV (m_X4_giveLoaves n k0 k1 σ)) := by
  refine xMet.of0 (by decide) (Nat.le_of_ble_eq_true rfl) rfl rfl (fun X hE C => ?_)
  subst hE
  exact xMap (fun q => (none, q)) (wk_X4_giveLoaves C (fun _ => rfl) hk0 hk1)
theorem mt_X4_giveLoaves : xMth yX4_giveLoaves cX4_giveLoaves 6 none 1 := ⟨wd738, wd60, ⟨by decide, by decide, rfl⟩⟩
theorem vr_X4_giveLoaves : xVir yX4_giveLoaves := ⟨wd737, wd14⟩
def m_X4_run (n : Nat) (k0 : Nat) (k1 : Nat) (p2 : Int) (σ : xS) : Option xS :=
  (m_X4_begin n k0 k1 p2 σ).bind fun s1 => loopF (fun rec3 (t2 : Int × Int × xS) => xj (fun (q8 : Unit) => loopF (fun rec10 (t9 : Int × xS) => if (zI (t9.2 k0 2)) ≤ (zI t9.1) then (m_X4_giveLoaves n k0 k1 t9.2).bind fun s13 => some s13 else xck 5 6 <| xck (zI t9.1) 60 <| xck (zI t9.1) 60 <| xlet (xput t9.2 k0 1 (zmax (t9.2 k0 1) (zmax (t9.2 (k0 + 4 + (5 : Int).toNat) (zI t9.1).toNat) (t9.2 (k0 + 12) (zI t9.1).toNat)))) fun s15 => xlet (t9.1 + 1) fun v16 => rec10 (v16, s15)) n (0, t2.2.2)) fun J6 => if 1000000 ≤ (zI t2.2.1) then J6 () else if (zI t2.1) = (-1) then J6 () else (m_X4_noteWhatEnded n k0 k1 t2.1 t2.2.2).bind fun s19 => (m_X4_spoilWaiting n k0 k1 t2.1 s19).bind fun s20 => (m_X4_bakeWaiting n k0 k1 t2.1 s20).bind fun s21 => (m_X4_shapeWaiting n k0 k1 t2.1 s21).bind fun s22 => (m_X4_mixNext n k0 k1 t2.1 s22).bind fun s23 => (m_X4_nextMinute n k0 k1 t2.1 s23).bind fun v24 => xlet (t2.2.1 + 1) fun v25 => rec3 (v24, v25, s23)) n (p2, 0, s1)
set_option maxHeartbeats 4000000 in
set_option maxRecDepth 100000 in
theorem wk_X4_run {X : xX} {Qf : xS → State → Prop} {n : Nat} {k0 : Nat} {k1 : Nat} {p2 : Int} {σ : xS} (C : xCx X cX4_run "BakeryNight$Night" none { frames := 5, cells := 0, slots := 0, locals := 116 } 5) (hQ : ∀ τ, Qf τ = xQf X WW (none, τ)) (hk0 : isNt k0) (hk1 : isBk k1) : WO X Qf WW σ 0 [(0, .ref (xqa (xXE X).2.2 k0)), (1, .ref (xqa (xXE X).2.2 k1)), (2, iV p2)] [] (m_X4_run n k0 k1 p2 σ) := by
  unfold m_X4_run
  refine x_aload_n C 0 dX4_run_0 rfl rfl ?_
  refine x_aload_n C 1 dX4_run_1 rfl rfl ?_
  refine x_iload_n C 2 dX4_run_2 rfl rfl ?_
  refine x_callV C (ct_X4_begin _ _ n k0 k1 p2 σ hk0 hk1) mt_X4_begin vr_X4_begin wd657 cls_X4 (at_X4 hk0) rfl ⟨rfl, rfl, Nat.le_of_ble_eq_true rfl, Nat.le_of_ble_eq_true rfl⟩ rfl (by decide) dX4_run_3 (kV (fun s1 => ?_))
  refine x_iload_n C 2 dX4_run_6 rfl rfl ?_
  refine x_istore_n (L' := [(3, _), (0, _), (1, _), (2, _)]) C dX4_run_7 rfl (by decide) rfl ?_
  refine x_iconst C (0) dX4_run_8 rfl ?_
  refine x_istore (L' := [(4, _), (3, _), (0, _), (1, _), (2, _)]) C dX4_run_9 (by decide) rfl ?_
  refine x_pick [2, 3, 1, 0] rfl ?_
  refine x_loop (fun t2 : Int × Int × xS => t2.2.2) (fun t2 : Int × Int × xS => [(0, .ref (xqa (xXE X).2.2 k0)), (1, .ref (xqa (xXE X).2.2 k1)), (3, iV t2.1), (4, iV t2.2.1)]) (fun rec3 hr4 t2 => ?_) n (p2, 0, s1)
  refine x_iload C 3 dX4_run_11 rfl ?_
  refine x_ldc C (1000000) wd673 rfl dX4_run_13 ?_
  refine x_join (fun J => ∀ q8 : Unit, WO X Qf WW t2.2.2 66 [(0, .ref (xqa (xXE X).2.2 k0)), (1, .ref (xqa (xXE X).2.2 k1))] [] (J q8)) ?_ ?_
  · intro q8
    refine x_iconst C (0) dX4_run_66 rfl ?_
    refine x_istore (L' := [(4, _), (0, _), (1, _)]) C dX4_run_67 (by decide) rfl ?_
    refine x_pick [1, 2, 0] rfl ?_
    refine x_loop (fun t9 : Int × xS => t9.2) (fun t9 : Int × xS => [(0, .ref (xqa (xXE X).2.2 k0)), (1, .ref (xqa (xXE X).2.2 k1)), (4, iV t9.1)]) (fun rec10 hr11 t9 => ?_) n (0, t2.2.2)
    refine x_iload C 2 dX4_run_69 rfl ?_
    refine x_aload_n C 0 dX4_run_71 rfl rfl ?_
    refine x_get (v := iV (t9.2 k0 2)) C 2 cls_X4 (at_X4 hk0) (by decide) wd448 rfl rfl dX4_run_72 ?_
    refine x_icmp_ge C 114 rfl rfl dX4_run_75 rfl (fun c12 => x_op c12 ?_) (fun c12 => x_on c12 ?_)
    · refine x_aload_n C 0 dX4_run_114 rfl rfl ?_
      refine x_aload_n C 1 dX4_run_115 rfl rfl ?_
      refine x_callV C (ct_X4_giveLoaves _ _ n k0 k1 t9.2 hk0 hk1) mt_X4_giveLoaves vr_X4_giveLoaves wd735 cls_X4 (at_X4 hk0) rfl ⟨rfl, rfl, Nat.le_of_ble_eq_true rfl, Nat.le_of_ble_eq_true rfl⟩ rfl (by decide) dX4_run_116 (kV (fun s13 => ?_))
      exact x_vretQ C (hQ _) rfl dX4_run_119
    · refine x_aload_n C 0 dX4_run_78 rfl rfl ?_
      refine x_aload_n C 0 dX4_run_79 rfl rfl ?_
      refine x_get (v := iV (t9.2 k0 1)) C 1 cls_X4 (at_X4 hk0) (by decide) wd446 rfl rfl dX4_run_80 ?_
      refine x_aload_n C 0 dX4_run_83 rfl rfl ?_
      refine x_get (v := .ref (xqa (xXE X).2.2 (k0 + 3))) C 5 cls_X4 (at_X4 hk0) (by decide) wd453 rfl (xV_r (rt_X4_begun hk0 _) rfl) dX4_run_84 ?_
      refine x_iconst C (5) dX4_run_87 rfl ?_
      refine x_aald C (at_X4_begun hk0) (by decide) (zIl _ rfl) (fun h14 => rl_X4_begun hk0 _ h14) dX4_run_88 (fun h14 => ?_)
      refine x_iload C 2 dX4_run_89 rfl ?_
      refine x_iald C (el_X4_begun hk0 h14) rfl dX4_run_91 (fun _ => ?_)
      refine x_aload_n C 0 dX4_run_92 rfl rfl ?_
      refine x_get (v := .ref (xqa (xXE X).2.2 (k0 + 12))) C 8 cls_X4 (at_X4 hk0) (by decide) wd457 rfl (xV_r (rt_X4_spoiled hk0 _) rfl) dX4_run_93 ?_
      refine x_iload C 2 dX4_run_96 rfl ?_
      refine x_iald C (at_X4_spoiled hk0) rfl dX4_run_98 (fun _ => ?_)
      refine x_mmax C wd714 wd715 wd58 wd716 (Nat.le_of_ble_eq_true rfl) (Nat.le_of_ble_eq_true rfl) dX4_run_99 ?_
      refine x_mmax C wd714 wd715 wd58 wd716 (Nat.le_of_ble_eq_true rfl) (Nat.le_of_ble_eq_true rfl) dX4_run_102 ?_
      refine x_put C 1 (zmax (t9.2 k0 1) (zmax (t9.2 (k0 + 4 + (5 : Int).toNat) (zI t9.1).toNat) (t9.2 (k0 + 12) (zI t9.1).toNat))) cls_X4 (at_X4 hk0) (by decide) wd446 rfl rfl rfl rfl (xV_pI rfl) dX4_run_105 ?_
      refine x_letS (fun s15 => ?_)
      refine x_inc C 2 (f := _) dX4_run_108 rfl (by decide) (1) rfl (fun v16 => ?_)
      refine x_reL (L' := [(4, _), (0, _), (1, _)]) rfl ?_
      refine x_goto C 69 dX4_run_111 rfl ?_
      refine x_pick [1, 2, 0] rfl ?_
      exact hr11 (v16, s15)
  · intro J6 hJ7
    refine x_icmp_ge C 66 rfl (zIl _ rfl) dX4_run_15 rfl (fun c17 => x_op c17 ?_) (fun c17 => x_on c17 ?_)
    · refine x_pick [0, 1] rfl ?_
      exact hJ7 ()
    · refine x_iload_n C 2 dX4_run_18 rfl rfl ?_
      refine x_iconst C (-1) dX4_run_19 rfl ?_
      refine x_icmp_eq C 66 rfl (zIl _ rfl) dX4_run_20 rfl (fun c18 => x_op c18 ?_) (fun c18 => x_on c18 ?_)
      · refine x_pick [0, 1] rfl ?_
        exact hJ7 ()
      · refine x_aload_n C 0 dX4_run_23 rfl rfl ?_
        refine x_aload_n C 1 dX4_run_24 rfl rfl ?_
        refine x_iload_n C 2 dX4_run_25 rfl rfl ?_
        refine x_callV C (ct_X4_noteWhatEnded _ _ n k0 k1 t2.1 t2.2.2 hk0 hk1) mt_X4_noteWhatEnded vr_X4_noteWhatEnded wd674 cls_X4 (at_X4 hk0) rfl ⟨rfl, rfl, Nat.le_of_ble_eq_true rfl, Nat.le_of_ble_eq_true rfl⟩ rfl (by decide) dX4_run_26 (kV (fun s19 => ?_))
        refine x_aload_n C 0 dX4_run_29 rfl rfl ?_
        refine x_aload_n C 1 dX4_run_30 rfl rfl ?_
        refine x_iload_n C 2 dX4_run_31 rfl rfl ?_
        refine x_callV C (ct_X4_spoilWaiting _ _ n k0 k1 t2.1 s19 hk0 hk1) mt_X4_spoilWaiting vr_X4_spoilWaiting wd686 cls_X4 (at_X4 hk0) rfl ⟨rfl, rfl, Nat.le_of_ble_eq_true rfl, Nat.le_of_ble_eq_true rfl⟩ rfl (by decide) dX4_run_32 (kV (fun s20 => ?_))
        refine x_aload_n C 0 dX4_run_35 rfl rfl ?_
        refine x_aload_n C 1 dX4_run_36 rfl rfl ?_
        refine x_iload_n C 2 dX4_run_37 rfl rfl ?_
        refine x_callV C (ct_X4_bakeWaiting _ _ n k0 k1 t2.1 s20 hk0 hk1) mt_X4_bakeWaiting vr_X4_bakeWaiting wd690 cls_X4 (at_X4 hk0) rfl ⟨rfl, rfl, Nat.le_of_ble_eq_true rfl, Nat.le_of_ble_eq_true rfl⟩ rfl (by decide) dX4_run_38 (kV (fun s21 => ?_))
        refine x_aload_n C 0 dX4_run_41 rfl rfl ?_
        refine x_aload_n C 1 dX4_run_42 rfl rfl ?_
        refine x_iload_n C 2 dX4_run_43 rfl rfl ?_
        refine x_callV C (ct_X4_shapeWaiting _ _ n k0 k1 t2.1 s21 hk0 hk1) mt_X4_shapeWaiting vr_X4_shapeWaiting wd706 cls_X4 (at_X4 hk0) rfl ⟨rfl, rfl, Nat.le_of_ble_eq_true rfl, Nat.le_of_ble_eq_true rfl⟩ rfl (by decide) dX4_run_44 (kV (fun s22 => ?_))
        refine x_aload_n C 0 dX4_run_47 rfl rfl ?_
        refine x_aload_n C 1 dX4_run_48 rfl rfl ?_
        refine x_iload_n C 2 dX4_run_49 rfl rfl ?_
        refine x_callV C (ct_X4_mixNext _ _ n k0 k1 t2.1 s22 hk0 hk1) mt_X4_mixNext vr_X4_mixNext wd724 cls_X4 (at_X4 hk0) rfl ⟨rfl, rfl, Nat.le_of_ble_eq_true rfl, Nat.le_of_ble_eq_true rfl⟩ rfl (by decide) dX4_run_50 (kV (fun s23 => ?_))
        refine x_aload_n C 0 dX4_run_53 rfl rfl ?_
        refine x_aload_n C 1 dX4_run_54 rfl rfl ?_
        refine x_iload_n C 2 dX4_run_55 rfl rfl ?_
        refine x_callV C (ct_X4_nextMinute _ _ n k0 k1 t2.1 s23 hk0 hk1) mt_X4_nextMinute vr_X4_nextMinute wd728 cls_X4 (at_X4 hk0) rfl ⟨rfl, rfl, Nat.le_of_ble_eq_true rfl, Nat.le_of_ble_eq_true rfl⟩ rfl (by decide) dX4_run_56 (kI (fun v24 => ?_))
        refine x_istore_n (L' := [(3, _), (0, _), (1, _), (4, _)]) C dX4_run_59 rfl (by decide) rfl ?_
        refine x_inc C 3 (f := _) dX4_run_60 rfl (by decide) (1) rfl (fun v25 => ?_)
        refine x_reL (L' := [(4, _), (3, _), (0, _), (1, _)]) rfl ?_
        refine x_goto C 11 dX4_run_63 rfl ?_
        refine x_pick [2, 3, 1, 0] rfl ?_
        exact hr4 (v24, v25, s23)
theorem ct_X4_run (l : Launch) (E : xE) (n : Nat) (k0 : Nat) (k1 : Nat) (p2 : Int) (σ : xS) (hk0 : isNt k0) (hk1 : isBk k1)  : xMet l E yX4_run cX4_run 5 none { frames := 5, cells := 0, slots := 0, locals := 116 } [.ref (xqa E.2.2 k0), .ref (xqa E.2.2 k1), iV p2] WW WW σ (xrV (m_X4_run n k0 k1 p2 σ)) := by
  refine xMet.of0 (by decide) (Nat.le_of_ble_eq_true rfl) rfl rfl (fun X hE C => ?_)
  subst hE
  exact xMap (fun q => (none, q)) (wk_X4_run C (fun _ => rfl) hk0 hk1)
theorem mt_X4_run : xMth yX4_run cX4_run 5 none 2 := ⟨wd656, wd60, ⟨by decide, by decide, rfl⟩⟩
theorem vr_X4_run : xVir yX4_run := ⟨wd654, wd655⟩
def m_X4_leftOver (n : Nat) (k0 : Nat) (k1 : Nat) (p2 : Int) (σ : xS) : Option Int :=
  loopF (fun rec2 (t1 : Int × Int) => if (zI (σ k0 2)) ≤ (zI t1.2) then (m_X1_loavesOf n k1 p2 σ).bind fun v5 => some (zmax (0 : Int) (t1.1 - v5)) else xck (zI t1.2) 60 <| xj (fun (q9 : Int) => xlet (t1.2 + 1) fun v10 => rec2 (q9, v10)) fun J7 => if (zI (σ (k0 + 1) (zI t1.2).toNat)) = (zI p2) then xck 5 6 <| xck (zI t1.2) 60 <| if (zI (σ (k0 + 4 + (5 : Int).toNat) (zI t1.2).toNat)) = (-1) then J7 t1.1 else xck (zI p2) 6 <| xlet (t1.1 + (σ (k1 + 2 + (zI p2).toNat) 7)) fun v15 => J7 v15 else J7 t1.1) n (0, 0)
set_option maxHeartbeats 4000000 in
set_option maxRecDepth 100000 in
theorem wk_X4_leftOver {X : xX} {Qf : Int → State → Prop} {n : Nat} {k0 : Nat} {k1 : Nat} {p2 : Int} {σ : xS} (C : xCx X cX4_leftOver "BakeryNight$Night" (some .int) { frames := 2, cells := 0, slots := 0, locals := 44 } 5) (hQ : ∀ v, Qf v = xQf X WW (some (iV v), σ)) (hk0 : isNt k0) (hk1 : isBk k1) : WO X Qf WW σ 0 [(0, .ref (xqa (xXE X).2.2 k0)), (1, .ref (xqa (xXE X).2.2 k1)), (2, iV p2)] [] (m_X4_leftOver n k0 k1 p2 σ) := by
  unfold m_X4_leftOver
  refine x_iconst C (0) dX4_leftOver_0 rfl ?_
  refine x_istore_n (L' := [(3, _), (0, _), (1, _), (2, _)]) C dX4_leftOver_1 rfl (by decide) rfl ?_
  refine x_iconst C (0) dX4_leftOver_2 rfl ?_
  refine x_istore (L' := [(4, _), (3, _), (0, _), (1, _), (2, _)]) C dX4_leftOver_3 (by decide) rfl ?_
  refine x_pick [2, 3, 4, 1, 0] rfl ?_
  refine x_loop (fun t1 : Int × Int => σ) (fun t1 : Int × Int => [(0, .ref (xqa (xXE X).2.2 k0)), (1, .ref (xqa (xXE X).2.2 k1)), (2, iV p2), (3, iV t1.1), (4, iV t1.2)]) (fun rec2 hr3 t1 => ?_) n (0, 0)
  refine x_iload C 4 dX4_leftOver_5 rfl ?_
  refine x_aload_n C 0 dX4_leftOver_7 rfl rfl ?_
  refine x_get (v := iV (σ k0 2)) C 2 cls_X4 (at_X4 hk0) (by decide) wd448 rfl rfl dX4_leftOver_8 ?_
  refine x_icmp_ge C 56 rfl rfl dX4_leftOver_11 rfl (fun c4 => x_op c4 ?_) (fun c4 => x_on c4 ?_)
  · refine x_iconst C (0) dX4_leftOver_56 rfl ?_
    refine x_iload_n C 3 dX4_leftOver_57 rfl rfl ?_
    refine x_aload_n C 1 dX4_leftOver_58 rfl rfl ?_
    refine x_iload_n C 2 dX4_leftOver_59 rfl rfl ?_
    refine x_callV C (ct_X1_loavesOf _ _ n k1 p2 σ hk1) mt_X1_loavesOf vr_X1_loavesOf wd1495 cls_X1 (at_X1 hk1) rfl ⟨rfl, rfl, Nat.le_of_ble_eq_true rfl, Nat.le_of_ble_eq_true rfl⟩ rfl (Nat.le_of_ble_eq_true rfl) dX4_leftOver_60 (kI (fun v5 => ?_))
    refine x_isub C dX4_leftOver_63 ?_
    refine x_mmax C wd714 wd715 wd58 wd716 (Nat.le_of_ble_eq_true rfl) (Nat.le_of_ble_eq_true rfl) dX4_leftOver_64 ?_
    exact x_iretQ C (hQ _) rfl dX4_leftOver_67
  · refine x_aload_n C 0 dX4_leftOver_14 rfl rfl ?_
    refine x_get (v := .ref (xqa (xXE X).2.2 (k0 + 1))) C 3 cls_X4 (at_X4 hk0) (by decide) wd449 rfl (xV_r (rt_X4_dough hk0 _) rfl) dX4_leftOver_15 ?_
    refine x_iload C 4 dX4_leftOver_18 rfl ?_
    refine x_iald C (at_X4_dough hk0) rfl dX4_leftOver_20 (fun _ => ?_)
    refine x_iload_n C 2 dX4_leftOver_21 rfl rfl ?_
    refine x_join (fun J => ∀ q9 : Int, WO X Qf WW σ 50 [(0, .ref (xqa (xXE X).2.2 k0)), (1, .ref (xqa (xXE X).2.2 k1)), (2, iV p2), (3, iV q9), (4, iV t1.2)] [] (J q9)) ?_ ?_
    · intro q9
      refine x_inc C 4 (f := _) dX4_leftOver_50 rfl (by decide) (1) rfl (fun v10 => ?_)
      refine x_reL (L' := [(4, _), (0, _), (1, _), (2, _), (3, _)]) rfl ?_
      refine x_goto C 5 dX4_leftOver_53 rfl ?_
      refine x_pick [1, 2, 3, 4, 0] rfl ?_
      exact hr3 (q9, v10)
    · intro J7 hJ8
      refine x_icmp_ne C 50 rfl rfl dX4_leftOver_22 rfl (fun c11 => x_on c11 ?_) (fun c11 => x_op c11 ?_)
      · refine x_pick [0, 1, 2, 3, 4] rfl ?_
        exact hJ8 t1.1
      · refine x_aload_n C 0 dX4_leftOver_25 rfl rfl ?_
        refine x_get (v := .ref (xqa (xXE X).2.2 (k0 + 3))) C 5 cls_X4 (at_X4 hk0) (by decide) wd453 rfl (xV_r (rt_X4_begun hk0 _) rfl) dX4_leftOver_26 ?_
        refine x_iconst C (5) dX4_leftOver_29 rfl ?_
        refine x_aald C (at_X4_begun hk0) (by decide) (zIl _ rfl) (fun h12 => rl_X4_begun hk0 _ h12) dX4_leftOver_30 (fun h12 => ?_)
        refine x_iload C 4 dX4_leftOver_31 rfl ?_
        refine x_iald C (el_X4_begun hk0 h12) rfl dX4_leftOver_33 (fun _ => ?_)
        refine x_iconst C (-1) dX4_leftOver_34 rfl ?_
        refine x_icmp_eq C 50 rfl (zIl _ rfl) dX4_leftOver_35 rfl (fun c13 => x_op c13 ?_) (fun c13 => x_on c13 ?_)
        · refine x_pick [0, 1, 2, 3, 4] rfl ?_
          exact hJ8 t1.1
        · refine x_iload_n C 3 dX4_leftOver_38 rfl rfl ?_
          refine x_aload_n C 1 dX4_leftOver_39 rfl rfl ?_
          refine x_get (v := .ref (xqa (xXE X).2.2 (k1 + 1))) C 4 cls_X1 (at_X1 hk1) (by decide) wd350 rfl (xV_r (rt_X1_doughs hk1 _) rfl) dX4_leftOver_40 ?_
          refine x_iload_n C 2 dX4_leftOver_43 rfl rfl ?_
          refine x_aald C (at_X1_doughs hk1) (by decide) rfl (fun h14 => rl_X1_doughs hk1 _ h14) dX4_leftOver_44 (fun h14 => ?_)
          refine x_get (v := iV (σ (k1 + 2 + (zI p2).toNat) 7)) C 7 cls_X2 (el_X1_doughs hk1 h14) (by decide) wd178 rfl rfl dX4_leftOver_45 ?_
          refine x_iadd C dX4_leftOver_48 ?_
          refine x_letI (fun v15 => ?_)
          refine x_istore_n (L' := [(3, _), (0, _), (1, _), (2, _), (4, _)]) C dX4_leftOver_49 rfl (by decide) rfl ?_
          refine x_pick [1, 2, 3, 0, 4] rfl ?_
          exact hJ8 v15
theorem ct_X4_leftOver (l : Launch) (E : xE) (n : Nat) (k0 : Nat) (k1 : Nat) (p2 : Int) (σ : xS) (hk0 : isNt k0) (hk1 : isBk k1)  : xMet l E yX4_leftOver cX4_leftOver 5 (some .int) { frames := 2, cells := 0, slots := 0, locals := 44 } [.ref (xqa E.2.2 k0), .ref (xqa E.2.2 k1), iV p2] WW WW σ (xrI (m_X4_leftOver n k0 k1 p2 σ) σ) := by
  refine xMet.of0 (by decide) (Nat.le_of_ble_eq_true rfl) rfl rfl (fun X hE C => ?_)
  subst hE
  exact xMap (fun v => (some (iV v), σ)) (wk_X4_leftOver C (fun _ => rfl) hk0 hk1)
theorem mt_X4_leftOver : xMth yX4_leftOver cX4_leftOver 5 (some .int) 2 := ⟨wd1494, wd60, ⟨by decide, by decide, rfl⟩⟩
theorem vr_X4_leftOver : xVir yX4_leftOver := ⟨wd1492, wd1493⟩
