def m_X7_readShop (n : Nat) (k1 : Nat) (σ : xS) : Option xS :=
  (m_X7_beginOneOf n 7 (σ k1 8) σ).bind fun s1 => (m_X7_readNewName n 5 7 (s1 k1 8) s1).bind fun s2 => xj (fun (q5 : xS) => some q5) fun J3 => if (m_X7_failed s2) = 0 then xlet (xput s2 k1 8 ((s2 k1 8) + 1)) fun s7 => J3 s7 else J3 s2
set_option maxHeartbeats 4000000 in
set_option maxRecDepth 100000 in
theorem wk_X7_readShop {X : xX} {Qf : xS → State → Prop} {n : Nat} {k1 : Nat} {σ : xS} (C : xCx X cX7_readShop "BakeryNight$Parser" none { frames := 8, cells := 0, slots := 0, locals := 174 } 2) (hQ : ∀ τ, Qf τ = xQf X WW (none, τ)) (hk1 : isBk k1) : WO X Qf WW σ 0 [(0, .ref (xqa (xXE X).2.2 2)), (1, .ref (xqa (xXE X).2.2 k1))] [] (m_X7_readShop n k1 σ) := by
  unfold m_X7_readShop
  refine x_aload_n C 0 dX7_readShop_0 rfl rfl ?_
  refine x_bipush C (7) dX7_readShop_1 rfl ?_
  refine x_aload_n C 1 dX7_readShop_3 rfl rfl ?_
  refine x_get (v := iV (σ k1 8)) C 8 cls_X1 (at_X1 hk1) (by decide) wd365 rfl rfl dX7_readShop_4 ?_
  refine x_callV C (ct_X7_beginOneOf _ _ n 7 (σ k1 8) σ) mt_X7_beginOneOf vr_X7_beginOneOf wd999 cls_X7 at_X7 rfl ⟨rfl, rfl, Nat.le_of_ble_eq_true rfl, Nat.le_of_ble_eq_true rfl⟩ rfl (by decide) dX7_readShop_7 (kV (fun s1 => ?_))
  refine x_aload_n C 0 dX7_readShop_10 rfl rfl ?_
  refine x_aload_n C 0 dX7_readShop_11 rfl rfl ?_
  refine x_get (v := .ref (xqa (xXE X).2.2 5)) C 2 cls_X7 at_X7 (by decide) wd121 rfl (xV_r (rt_X7_shopNames  _) rfl) dX7_readShop_12 ?_
  refine x_aload_n C 1 dX7_readShop_15 rfl rfl ?_
  refine x_get (v := iV (s1 k1 8)) C 8 cls_X1 (at_X1 hk1) (by decide) wd365 rfl rfl dX7_readShop_16 ?_
  refine x_callV C (ct_X7_readNewName _ _ n 5 7 (s1 k1 8) s1 at_X7_shopNames) mt_X7_readNewName vr_X7_readNewName wd1003 cls_X7 at_X7 rfl ⟨rfl, rfl, Nat.le_of_ble_eq_true rfl, Nat.le_of_ble_eq_true rfl⟩ rfl (by decide) dX7_readShop_19 (kV (fun s2 => ?_))
  refine x_aload_n C 0 dX7_readShop_22 rfl rfl ?_
  refine x_callV C (ct_X7_failed _ _ s2) mt_X7_failed vr_X7_failed wd991 cls_X7 at_X7 rfl ⟨rfl, rfl, Nat.le_of_ble_eq_true rfl, Nat.le_of_ble_eq_true rfl⟩ rfl (by decide) dX7_readShop_23 (kP ?_)
  refine x_join (fun J => ∀ q5 : xS, WO X Qf WW q5 39 [] [] (J q5)) ?_ ?_
  · intro q5
    exact x_vretQ C (hQ _) rfl dX7_readShop_39
  · intro J3 hJ4
    refine x_if_ne C 39 (zI_bo (bo_X7_failed _)) dX7_readShop_26 rfl (fun c6 => x_on c6 ?_) (fun c6 => x_op c6 ?_)
    · refine x_pick [] rfl ?_
      exact hJ4 s2
    · refine x_aload_n C 1 dX7_readShop_29 rfl rfl ?_
      refine x_dup C dX7_readShop_30 rfl ?_
      refine x_get (v := iV (s2 k1 8)) C 8 cls_X1 (at_X1 hk1) (by decide) wd365 rfl rfl dX7_readShop_31 ?_
      refine x_iconst C (1) dX7_readShop_34 rfl ?_
      refine x_iadd C dX7_readShop_35 ?_
      refine x_put C 8 ((s2 k1 8) + 1) cls_X1 (at_X1 hk1) (by decide) wd365 rfl rfl rfl rfl (xV_pI rfl) dX7_readShop_36 ?_
      refine x_letS (fun s7 => ?_)
      refine x_pick [] rfl ?_
      exact hJ4 s7
theorem ct_X7_readShop (l : Launch) (E : xE) (n : Nat) (k1 : Nat) (σ : xS) (hk1 : isBk k1)  : xMet l E yX7_readShop cX7_readShop 2 none { frames := 8, cells := 0, slots := 0, locals := 174 } [.ref (xqa E.2.2 2), .ref (xqa E.2.2 k1)] WW WW σ (xrV (m_X7_readShop n k1 σ)) := by
  refine xMet.of0 (by decide) (Nat.le_of_ble_eq_true rfl) rfl rfl (fun X hE C => ?_)
  subst hE
  exact xMap (fun q => (none, q)) (wk_X7_readShop C (fun _ => rfl) hk1)
theorem mt_X7_readShop : xMth yX7_readShop cX7_readShop 2 none 1 := ⟨wd1057, wd50, ⟨by decide, by decide, rfl⟩⟩
theorem vr_X7_readShop : xVir yX7_readShop := ⟨wd1056, wd38⟩
def m_X7_readPlace (n : Nat) (k1 : Nat) (p2 : Int) (σ : xS) : Option (Int × xS) :=
  xlet (-1) fun v1 => (m_X10_keyword n σ).bind fun v2 => xwd v2 <| xj (fun (q7 : Int × xS) => xj (fun (q11 : xS) => xj (fun (q15 : xS) => some (q7.1, q15)) fun J13 => if (m_X7_failed q11) = 0 then (m_X10_next n q11).bind fun s17 => J13 s17 else J13 q11) fun J9 => if (zI q7.1) = (zI p2) then (m_X7_fail 3 q7.2).bind fun s19 => J9 s19 else J9 q7.2) fun J5 => if v2 = 23 then J5 (7, σ) else (m_X10_isName n σ).bind fun v21 => if (zI v21) = 0 then (m_X7_fail 1 σ).bind fun s26 => J5 (v1, s26) else (m_X7_indexOfName n 5 7 (σ k1 8) σ).bind fun v23 => if (zI v23) = (-1) then (m_X7_fail 4 σ).bind fun s25 => J5 (v23, s25) else J5 (v23, σ)
set_option maxHeartbeats 4000000 in
set_option maxRecDepth 100000 in
theorem wk_X7_readPlace {X : xX} {Qf : (Int × xS) → State → Prop} {n : Nat} {k1 : Nat} {p2 : Int} {σ : xS} (C : xCx X cX7_readPlace "BakeryNight$Parser" (some .int) { frames := 7, cells := 0, slots := 0, locals := 152 } 4) (hQ : ∀ v τ, Qf (v, τ) = xQf X WW (some (iV v), τ)) (hk1 : isBk k1) : WO X Qf WW σ 0 [(0, .ref (xqa (xXE X).2.2 2)), (1, .ref (xqa (xXE X).2.2 k1)), (2, iV p2)] [] (m_X7_readPlace n k1 p2 σ) := by
  unfold m_X7_readPlace
  refine x_iconst C (-1) dX7_readPlace_0 rfl ?_
  refine x_letI (fun v1 => ?_)
  refine x_istore_n (L' := [(3, _), (0, _), (1, _), (2, _)]) C dX7_readPlace_1 rfl (by decide) rfl ?_
  refine x_aload_n C 1 dX7_readPlace_2 rfl rfl ?_
  refine x_get (v := .ref (xqa (xXE X).2.2 3)) C 0 cls_X7 at_X7 (by decide) wd119 rfl (xV_r (rt_X7_scanner  _) rfl) dX7_readPlace_3 ?_
  refine x_callV C (ct_X10_keyword _ _ n σ) mt_X10_keyword vr_X10_keyword wd954 cls_X10 at_X10 rfl ⟨rfl, rfl, Nat.le_of_ble_eq_true rfl, Nat.le_of_ble_eq_true rfl⟩ rfl (by decide) dX7_readPlace_6 (kW (fun v2 => ?_))
  refine x_wd (fun hw3 => ?_)
  refine x_gsW C 23 (by decide) wd1066 dX7_readPlace_9 ?_
  refine x_join (fun J => ∀ q7 : Int × xS, WO X Qf WW q7.2 62 [(0, .ref (xqa (xXE X).2.2 2)), (2, iV p2), (3, iV q7.1)] [] (J q7)) ?_ ?_
  · intro q7
    refine x_iload_n C 2 dX7_readPlace_62 rfl rfl ?_
    refine x_iload_n C 1 dX7_readPlace_63 rfl rfl ?_
    refine x_join (fun J => ∀ q11 : xS, WO X Qf WW q11 72 [(0, .ref (xqa (xXE X).2.2 2)), (3, iV q7.1)] [] (J q11)) ?_ ?_
    · intro q11
      refine x_aload_n C 0 dX7_readPlace_72 rfl rfl ?_
      refine x_callV C (ct_X7_failed _ _ q11) mt_X7_failed vr_X7_failed wd991 cls_X7 at_X7 rfl ⟨rfl, rfl, Nat.le_of_ble_eq_true rfl, Nat.le_of_ble_eq_true rfl⟩ rfl (by decide) dX7_readPlace_73 (kP ?_)
      refine x_join (fun J => ∀ q15 : xS, WO X Qf WW q15 86 [(3, iV q7.1)] [] (J q15)) ?_ ?_
      · intro q15
        refine x_iload_n C 0 dX7_readPlace_86 rfl rfl ?_
        exact x_iretQ C (hQ _ _) rfl dX7_readPlace_87
      · intro J13 hJ14
        refine x_if_ne C 86 (zI_bo (bo_X7_failed _)) dX7_readPlace_76 rfl (fun c16 => x_on c16 ?_) (fun c16 => x_op c16 ?_)
        · refine x_pick [1] rfl ?_
          exact hJ14 q11
        · refine x_aload_n C 0 dX7_readPlace_79 rfl rfl ?_
          refine x_get (v := .ref (xqa (xXE X).2.2 3)) C 0 cls_X7 at_X7 (by decide) wd119 rfl (xV_r (rt_X7_scanner  _) rfl) dX7_readPlace_80 ?_
          refine x_callV C (ct_X10_next _ _ n q11) mt_X10_next vr_X10_next wd978 cls_X10 at_X10 rfl ⟨rfl, rfl, Nat.le_of_ble_eq_true rfl, Nat.le_of_ble_eq_true rfl⟩ rfl (by decide) dX7_readPlace_83 (kV (fun s17 => ?_))
          refine x_pick [1] rfl ?_
          exact hJ14 s17
    · intro J9 hJ10
      refine x_icmp_ne C 72 rfl rfl dX7_readPlace_64 rfl (fun c18 => x_on c18 ?_) (fun c18 => x_op c18 ?_)
      · refine x_pick [0, 2] rfl ?_
        exact hJ10 q7.2
      · refine x_aload_n C 0 dX7_readPlace_67 rfl rfl ?_
        refine x_iconst C (3) dX7_readPlace_68 rfl ?_
        refine x_callV C (ct_X7_fail _ _ 3 q7.2) mt_X7_fail vr_X7_fail wd962 cls_X7 at_X7 rfl ⟨rfl, rfl, Nat.le_of_ble_eq_true rfl, Nat.le_of_ble_eq_true rfl⟩ rfl (by decide) dX7_readPlace_69 (kV (fun s19 => ?_))
        refine x_pick [0, 2] rfl ?_
        exact hJ10 s19
  · intro J5 hJ6
    refine x_acmpW_ne C hw3 (by decide) 21 dX7_readPlace_12 rfl (fun c20 => x_on c20 ?_) (fun c20 => x_op c20 ?_)
    · refine x_aload_n C 1 dX7_readPlace_21 rfl rfl ?_
      refine x_get (v := .ref (xqa (xXE X).2.2 3)) C 0 cls_X7 at_X7 (by decide) wd119 rfl (xV_r (rt_X7_scanner  _) rfl) dX7_readPlace_22 ?_
      refine x_callV C (ct_X10_isName _ _ n σ) mt_X10_isName vr_X10_isName wd1007 cls_X10 at_X10 rfl ⟨rfl, rfl, Nat.le_of_ble_eq_true rfl, Nat.le_of_ble_eq_true rfl⟩ rfl (by decide) dX7_readPlace_25 (kI (fun v21 => ?_))
      refine x_if_ne C 39 rfl dX7_readPlace_28 rfl (fun c22 => x_on c22 ?_) (fun c22 => x_op c22 ?_)
      · refine x_aload_n C 1 dX7_readPlace_39 rfl rfl ?_
        refine x_aload_n C 1 dX7_readPlace_40 rfl rfl ?_
        refine x_get (v := .ref (xqa (xXE X).2.2 5)) C 2 cls_X7 at_X7 (by decide) wd121 rfl (xV_r (rt_X7_shopNames  _) rfl) dX7_readPlace_41 ?_
        refine x_aload_n C 2 dX7_readPlace_44 rfl rfl ?_
        refine x_get (v := iV (σ k1 8)) C 8 cls_X1 (at_X1 hk1) (by decide) wd365 rfl rfl dX7_readPlace_45 ?_
        refine x_callV C (ct_X7_indexOfName _ _ n 5 7 (σ k1 8) σ at_X7_shopNames) mt_X7_indexOfName vr_X7_indexOfName wd1012 cls_X7 at_X7 rfl ⟨rfl, rfl, Nat.le_of_ble_eq_true rfl, Nat.le_of_ble_eq_true rfl⟩ rfl (by decide) dX7_readPlace_48 (kI (fun v23 => ?_))
        refine x_istore_n (L' := [(3, _), (0, _), (1, _), (2, _)]) C dX7_readPlace_51 rfl (by decide) rfl ?_
        refine x_iload_n C 0 dX7_readPlace_52 rfl rfl ?_
        refine x_iconst C (-1) dX7_readPlace_53 rfl ?_
        refine x_icmp_ne C 62 rfl (zIl _ rfl) dX7_readPlace_54 rfl (fun c24 => x_on c24 ?_) (fun c24 => x_op c24 ?_)
        · refine x_pick [1, 3, 0] rfl ?_
          exact hJ6 (v23, σ)
        · refine x_aload_n C 1 dX7_readPlace_57 rfl rfl ?_
          refine x_iconst C (4) dX7_readPlace_58 rfl ?_
          refine x_callV C (ct_X7_fail _ _ 4 σ) mt_X7_fail vr_X7_fail wd962 cls_X7 at_X7 rfl ⟨rfl, rfl, Nat.le_of_ble_eq_true rfl, Nat.le_of_ble_eq_true rfl⟩ rfl (by decide) dX7_readPlace_59 (kV (fun s25 => ?_))
          refine x_pick [1, 3, 0] rfl ?_
          exact hJ6 (v23, s25)
      · refine x_aload_n C 1 dX7_readPlace_31 rfl rfl ?_
        refine x_iconst C (1) dX7_readPlace_32 rfl ?_
        refine x_callV C (ct_X7_fail _ _ 1 σ) mt_X7_fail vr_X7_fail wd962 cls_X7 at_X7 rfl ⟨rfl, rfl, Nat.le_of_ble_eq_true rfl, Nat.le_of_ble_eq_true rfl⟩ rfl (by decide) dX7_readPlace_33 (kV (fun s26 => ?_))
        refine x_goto C 62 dX7_readPlace_36 rfl ?_
        refine x_pick [1, 3, 0] rfl ?_
        exact hJ6 (v1, s26)
    · refine x_bipush C (7) dX7_readPlace_15 rfl ?_
      refine x_istore_n (L' := [(3, _), (0, _), (1, _), (2, _)]) C dX7_readPlace_17 rfl (by decide) rfl ?_
      refine x_goto C 62 dX7_readPlace_18 rfl ?_
      refine x_pick [1, 3, 0] rfl ?_
      exact hJ6 (7, σ)
theorem ct_X7_readPlace (l : Launch) (E : xE) (n : Nat) (k1 : Nat) (p2 : Int) (σ : xS) (hk1 : isBk k1)  : xMet l E yX7_readPlace cX7_readPlace 4 (some .int) { frames := 7, cells := 0, slots := 0, locals := 152 } [.ref (xqa E.2.2 2), .ref (xqa E.2.2 k1), iV p2] WW WW σ (xrS (m_X7_readPlace n k1 p2 σ)) := by
  refine xMet.of0 (by decide) (Nat.le_of_ble_eq_true rfl) rfl rfl (fun X hE C => ?_)
  subst hE
  exact xMap (fun q => (some (iV q.1), q.2)) (wk_X7_readPlace C (fun _ _ => rfl) hk1)
theorem mt_X7_readPlace : xMth yX7_readPlace cX7_readPlace 4 (some .int) 2 := ⟨wd1065, wd50, ⟨by decide, by decide, rfl⟩⟩
theorem vr_X7_readPlace : xVir yX7_readPlace := ⟨wd1064, wd40⟩
def m_X7_readStreet (n : Nat) (k1 : Nat) (σ : xS) : Option xS :=
  xlet (σ (k1 + 39) 4) fun v1 => (m_X7_beginOneOf n 20 v1 σ).bind fun s2 => xbS (m_X7_readPlace n k1 (-1) s2) fun v4 s3 => xbS (m_X7_readPlace n k1 v4 s3) fun v6 s5 => xbS (m_X7_readNumber n 1 120 s5) fun v8 s7 => xj (fun (q11 : xS) => some q11) fun J9 => if (m_X7_failed s7) = 0 then xck (zI v1) 20 <| xlet (xput s7 ((k1 + 39) + 1) (zI v1).toNat v4) fun s13 => xck (zI v1) 20 <| xlet (xput s13 ((k1 + 39) + 2) (zI v1).toNat v6) fun s14 => xck (zI v1) 20 <| xlet (xput s14 ((k1 + 39) + 3) (zI v1).toNat v8) fun s15 => xck (zI v1) 20 <| xlet (xput s15 ((k1 + 39) + 4) (zI v1).toNat (zz 0)) fun s16 => xlet (xput s16 (k1 + 39) 4 ((s16 (k1 + 39) 4) + 1)) fun s17 => J9 s17 else J9 s7
set_option maxHeartbeats 4000000 in
set_option maxRecDepth 100000 in
theorem wk_X7_readStreet {X : xX} {Qf : xS → State → Prop} {n : Nat} {k1 : Nat} {σ : xS} (C : xCx X cX7_readStreet "BakeryNight$Parser" none { frames := 8, cells := 0, slots := 0, locals := 175 } 7) (hQ : ∀ τ, Qf τ = xQf X WW (none, τ)) (hk1 : isBk k1) : WO X Qf WW σ 0 [(0, .ref (xqa (xXE X).2.2 2)), (1, .ref (xqa (xXE X).2.2 k1))] [] (m_X7_readStreet n k1 σ) := by
  unfold m_X7_readStreet
  refine x_aload_n C 1 dX7_readStreet_0 rfl rfl ?_
  refine x_get (v := .ref (xqa (xXE X).2.2 (k1 + 39))) C 9 cls_X1 (at_X1 hk1) (by decide) wd368 rfl (xV_r (rt_X1_roads hk1 _) rfl) dX7_readStreet_1 ?_
  refine x_astore_n (L' := [(2, _), (0, _), (1, _)]) C dX7_readStreet_4 rfl (by decide) rfl ?_
  refine x_aload_n C 0 dX7_readStreet_5 rfl rfl ?_
  refine x_get (v := iV (σ (k1 + 39) 4)) C 4 cls_X9 (at_X9 (rd_bk hk1)) (by decide) wd287 rfl rfl dX7_readStreet_6 ?_
  refine x_letI (fun v1 => ?_)
  refine x_istore_n (L' := [(3, _), (2, _), (0, _), (1, _)]) C dX7_readStreet_9 rfl (by decide) rfl ?_
  refine x_aload_n C 2 dX7_readStreet_10 rfl rfl ?_
  refine x_bipush C (20) dX7_readStreet_11 rfl ?_
  refine x_iload_n C 0 dX7_readStreet_13 rfl rfl ?_
  refine x_callV C (ct_X7_beginOneOf _ _ n 20 v1 σ) mt_X7_beginOneOf vr_X7_beginOneOf wd999 cls_X7 at_X7 rfl ⟨rfl, rfl, Nat.le_of_ble_eq_true rfl, Nat.le_of_ble_eq_true rfl⟩ rfl (by decide) dX7_readStreet_14 (kV (fun s2 => ?_))
  refine x_aload_n C 2 dX7_readStreet_17 rfl rfl ?_
  refine x_aload_n C 3 dX7_readStreet_18 rfl rfl ?_
  refine x_iconst C (-1) dX7_readStreet_19 rfl ?_
  refine x_callV C (ct_X7_readPlace _ _ n k1 (-1) s2 hk1) mt_X7_readPlace vr_X7_readPlace wd1062 cls_X7 at_X7 rfl ⟨rfl, rfl, Nat.le_of_ble_eq_true rfl, Nat.le_of_ble_eq_true rfl⟩ rfl (by decide) dX7_readStreet_20 (kS (fun v4 s3 => ?_))
  refine x_istore (L' := [(4, _), (3, _), (2, _), (0, _), (1, _)]) C dX7_readStreet_23 (by decide) rfl ?_
  refine x_aload_n C 3 dX7_readStreet_25 rfl rfl ?_
  refine x_aload_n C 4 dX7_readStreet_26 rfl rfl ?_
  refine x_iload C 0 dX7_readStreet_27 rfl ?_
  refine x_callV C (ct_X7_readPlace _ _ n k1 v4 s3 hk1) mt_X7_readPlace vr_X7_readPlace wd1062 cls_X7 at_X7 rfl ⟨rfl, rfl, Nat.le_of_ble_eq_true rfl, Nat.le_of_ble_eq_true rfl⟩ rfl (by decide) dX7_readStreet_29 (kS (fun v6 s5 => ?_))
  refine x_istore (L' := [(5, _), (4, _), (3, _), (2, _), (0, _), (1, _)]) C dX7_readStreet_32 (by decide) rfl ?_
  refine x_aload_n C 4 dX7_readStreet_34 rfl rfl ?_
  refine x_iconst C (1) dX7_readStreet_35 rfl ?_
  refine x_bipush C (120) dX7_readStreet_36 rfl ?_
  refine x_callV C (ct_X7_readNumber _ _ n 1 120 s5) mt_X7_readNumber vr_X7_readNumber wd979 cls_X7 at_X7 rfl ⟨rfl, rfl, Nat.le_of_ble_eq_true rfl, Nat.le_of_ble_eq_true rfl⟩ rfl (by decide) dX7_readStreet_38 (kS (fun v8 s7 => ?_))
  refine x_istore (L' := [(6, _), (5, _), (4, _), (3, _), (2, _), (0, _), (1, _)]) C dX7_readStreet_41 (by decide) rfl ?_
  refine x_aload_n C 5 dX7_readStreet_43 rfl rfl ?_
  refine x_callV C (ct_X7_failed _ _ s7) mt_X7_failed vr_X7_failed wd991 cls_X7 at_X7 rfl ⟨rfl, rfl, Nat.le_of_ble_eq_true rfl, Nat.le_of_ble_eq_true rfl⟩ rfl (by decide) dX7_readStreet_44 (kP ?_)
  refine x_join (fun J => ∀ q11 : xS, WO X Qf WW q11 91 [] [] (J q11)) ?_ ?_
  · intro q11
    exact x_vretQ C (hQ _) rfl dX7_readStreet_91
  · intro J9 hJ10
    refine x_if_ne C 91 (zI_bo (bo_X7_failed _)) dX7_readStreet_47 rfl (fun c12 => x_on c12 ?_) (fun c12 => x_op c12 ?_)
    · refine x_pick [] rfl ?_
      exact hJ10 s7
    · refine x_aload_n C 4 dX7_readStreet_50 rfl rfl ?_
      refine x_get (v := .ref (xqa (xXE X).2.2 ((k1 + 39) + 1))) C 0 cls_X9 (at_X9 (rd_bk hk1)) (by decide) wd276 rfl (xV_r (rt_X9_from (rd_bk hk1) _) rfl) dX7_readStreet_51 ?_
      refine x_iload_n C 3 dX7_readStreet_54 rfl rfl ?_
      refine x_iload C 2 dX7_readStreet_55 rfl ?_
      refine x_iast C (at_X9_from (rd_bk hk1)) rfl dX7_readStreet_57 (fun _ => ?_)
      refine x_letS (fun s13 => ?_)
      refine x_aload_n C 4 dX7_readStreet_58 rfl rfl ?_
      refine x_get (v := .ref (xqa (xXE X).2.2 ((k1 + 39) + 2))) C 1 cls_X9 (at_X9 (rd_bk hk1)) (by decide) wd278 rfl (xV_r (rt_X9_to (rd_bk hk1) _) rfl) dX7_readStreet_59 ?_
      refine x_iload_n C 3 dX7_readStreet_62 rfl rfl ?_
      refine x_iload C 1 dX7_readStreet_63 rfl ?_
      refine x_iast C (at_X9_to (rd_bk hk1)) rfl dX7_readStreet_65 (fun _ => ?_)
      refine x_letS (fun s14 => ?_)
      refine x_aload_n C 4 dX7_readStreet_66 rfl rfl ?_
      refine x_get (v := .ref (xqa (xXE X).2.2 ((k1 + 39) + 3))) C 2 cls_X9 (at_X9 (rd_bk hk1)) (by decide) wd280 rfl (xV_r (rt_X9_minutes (rd_bk hk1) _) rfl) dX7_readStreet_67 ?_
      refine x_iload_n C 3 dX7_readStreet_70 rfl rfl ?_
      refine x_iload C 0 dX7_readStreet_71 rfl ?_
      refine x_iast C (at_X9_minutes (rd_bk hk1)) rfl dX7_readStreet_73 (fun _ => ?_)
      refine x_letS (fun s15 => ?_)
      refine x_aload_n C 4 dX7_readStreet_74 rfl rfl ?_
      refine x_get (v := .ref (xqa (xXE X).2.2 ((k1 + 39) + 4))) C 3 cls_X9 (at_X9 (rd_bk hk1)) (by decide) wd282 rfl (xV_r (rt_X9_closed (rd_bk hk1) _) rfl) dX7_readStreet_75 ?_
      refine x_iload_n C 3 dX7_readStreet_78 rfl rfl ?_
      refine x_iconst C (0) dX7_readStreet_79 rfl ?_
      refine x_zast C (at_X9_closed (rd_bk hk1)) rfl dX7_readStreet_80 (fun _ => ?_)
      refine x_letS (fun s16 => ?_)
      refine x_aload_n C 4 dX7_readStreet_81 rfl rfl ?_
      refine x_dup C dX7_readStreet_82 rfl ?_
      refine x_get (v := iV (s16 (k1 + 39) 4)) C 4 cls_X9 (at_X9 (rd_bk hk1)) (by decide) wd287 rfl rfl dX7_readStreet_83 ?_
      refine x_iconst C (1) dX7_readStreet_86 rfl ?_
      refine x_iadd C dX7_readStreet_87 ?_
      refine x_put C 4 ((s16 (k1 + 39) 4) + 1) cls_X9 (at_X9 (rd_bk hk1)) (by decide) wd287 rfl rfl rfl rfl (xV_pI rfl) dX7_readStreet_88 ?_
      refine x_letS (fun s17 => ?_)
      refine x_pick [] rfl ?_
      exact hJ10 s17
theorem ct_X7_readStreet (l : Launch) (E : xE) (n : Nat) (k1 : Nat) (σ : xS) (hk1 : isBk k1)  : xMet l E yX7_readStreet cX7_readStreet 7 none { frames := 8, cells := 0, slots := 0, locals := 175 } [.ref (xqa E.2.2 2), .ref (xqa E.2.2 k1)] WW WW σ (xrV (m_X7_readStreet n k1 σ)) := by
  refine xMet.of0 (by decide) (Nat.le_of_ble_eq_true rfl) rfl rfl (fun X hE C => ?_)
  subst hE
  exact xMap (fun q => (none, q)) (wk_X7_readStreet C (fun _ => rfl) hk1)
theorem mt_X7_readStreet : xMth yX7_readStreet cX7_readStreet 7 none 1 := ⟨wd1061, wd50, ⟨by decide, by decide, rfl⟩⟩
theorem vr_X7_readStreet : xVir yX7_readStreet := ⟨wd1060, wd39⟩
