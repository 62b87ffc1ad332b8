def m_X13_routeStop (n : Nat) (p1 : Int) (p2 : Int) (σ : xS) : Option (Int × xS) :=
  xbS (m_X13_routeMinutes n p1 σ) fun v2 s1 => xj (fun (q6 : Unit) => some ((-1), s1)) fun J4 => if (zI v2) = (-1) then J4 () else if 0 ≤ (zI p2) then (m_X13_routes n 185 p1 s1).bind fun s9 => xj (fun (q12 : Int) => some (q12, s9)) fun J10 => if (zI (s9 184 42)) ≤ (zI p2) then J10 (-1) else xck (zI p2) 7 <| J10 (s9 207 (zI p2).toNat) else J4 ()
set_option maxHeartbeats 4000000 in
set_option maxRecDepth 100000 in
theorem wk_X13_routeStop {X : xX} {Qf : (Int × xS) → State → Prop} {n : Nat} {p1 : Int} {p2 : Int} {σ : xS} (C : xCx X cX13_routeStop "BakeryNightModel" (some .int) { frames := 4, cells := 0, slots := 0, locals := 94 } 3) (hQ : ∀ v τ, Qf (v, τ) = xQf X WW (some (iV v), τ))  : WO X Qf WW σ 0 [(0, .ref (xqa (xXE X).2.2 184)), (1, iV p1), (2, iV p2)] [] (m_X13_routeStop n p1 p2 σ) := by
  unfold m_X13_routeStop
  refine x_aload_n C 0 dX13_routeStop_0 rfl rfl ?_
  refine x_iload_n C 1 dX13_routeStop_1 rfl rfl ?_
  refine x_callV C (ct_X13_routeMinutes _ _ n p1 σ) mt_X13_routeMinutes vr_X13_routeMinutes wd2136 cls_X13 at_X13 rfl ⟨rfl, rfl, Nat.le_of_ble_eq_true rfl, Nat.le_of_ble_eq_true rfl⟩ rfl (by decide) dX13_routeStop_2 (kS (fun v2 s1 => ?_))
  refine x_iconst C (-1) dX13_routeStop_5 rfl ?_
  refine x_join (fun J => ∀ q6 : Unit, WO X Qf WW s1 13 [] [] (J q6)) ?_ ?_
  · intro q6
    refine x_iconst C (-1) dX13_routeStop_13 rfl ?_
    exact x_iretQ C (hQ _ _) rfl dX13_routeStop_14
  · intro J4 hJ5
    refine x_icmp_eq C 13 rfl (zIl _ rfl) dX13_routeStop_6 rfl (fun c7 => x_op c7 ?_) (fun c7 => x_on c7 ?_)
    · refine x_pick [] rfl ?_
      exact hJ5 ()
    · refine x_iload_n C 2 dX13_routeStop_9 rfl rfl ?_
      refine x_if_ge C 15 rfl dX13_routeStop_10 rfl (fun c8 => x_op c8 ?_) (fun c8 => x_on c8 ?_)
      · refine x_aload_n C 0 dX13_routeStop_15 rfl rfl ?_
        refine x_aload_n C 0 dX13_routeStop_16 rfl rfl ?_
        refine x_get (v := .ref (xqa (xXE X).2.2 185)) C 0 cls_X13 at_X13 (by decide) wd1502 rfl (xV_r (rt_X13_bakery  _) rfl) dX13_routeStop_17 ?_
        refine x_iload_n C 1 dX13_routeStop_20 rfl rfl ?_
        refine x_callV C (ct_X13_routes _ _ n 185 p1 s1 at_X13_bakery) mt_X13_routes vr_X13_routes wd2137 cls_X13 at_X13 rfl ⟨rfl, rfl, Nat.le_of_ble_eq_true rfl, Nat.le_of_ble_eq_true rfl⟩ rfl (by decide) dX13_routeStop_21 (kV (fun s9 => ?_))
        refine x_iload_n C 2 dX13_routeStop_24 rfl rfl ?_
        refine x_aload_n C 0 dX13_routeStop_25 rfl rfl ?_
        refine x_get (v := iV (s9 184 42)) C 42 cls_X13 at_X13 (by decide) wd1544 rfl rfl dX13_routeStop_26 ?_
        refine x_join (fun J => ∀ q12 : Int, WO X Qf WW s9 42 [] [iV q12] (J q12)) ?_ ?_
        · intro q12
          exact x_iretQ C (hQ _ _) rfl dX13_routeStop_42
        · intro J10 hJ11
          refine x_icmp_ge C 41 rfl rfl dX13_routeStop_29 rfl (fun c13 => x_op c13 ?_) (fun c13 => x_on c13 ?_)
          · refine x_iconst C (-1) dX13_routeStop_41 rfl ?_
            refine x_pick [] rfl ?_
            exact hJ11 (-1)
          · refine x_aload_n C 0 dX13_routeStop_32 rfl rfl ?_
            refine x_get (v := .ref (xqa (xXE X).2.2 207)) C 41 cls_X13 at_X13 (by decide) wd1543 rfl (xV_r (rt_X13_stops  _) rfl) dX13_routeStop_33 ?_
            refine x_iload_n C 2 dX13_routeStop_36 rfl rfl ?_
            refine x_iald C at_X13_stops rfl dX13_routeStop_37 (fun _ => ?_)
            refine x_goto C 42 dX13_routeStop_38 rfl ?_
            refine x_pick [] rfl ?_
            exact hJ11 (s9 207 (zI p2).toNat)
      · refine x_pick [] rfl ?_
        exact hJ5 ()
theorem ct_X13_routeStop (l : Launch) (E : xE) (n : Nat) (p1 : Int) (p2 : Int) (σ : xS)   : xMet l E yX13_routeStop cX13_routeStop 3 (some .int) { frames := 4, cells := 0, slots := 0, locals := 94 } [.ref (xqa E.2.2 184), iV p1, iV p2] WW WW σ (xrS (m_X13_routeStop n p1 p2 σ)) := by
  refine xMet.of0 (by decide) (Nat.le_of_ble_eq_true rfl) rfl rfl (fun X hE C => ?_)
  subst hE
  exact xMap (fun q => (some (iV q.1), q.2)) (wk_X13_routeStop C (fun _ _ => rfl) )
theorem mt_X13_routeStop : xMth yX13_routeStop cX13_routeStop 3 (some .int) 2 := ⟨wd2135, wd164, ⟨by decide, by decide, rfl⟩⟩
theorem vr_X13_routeStop : xVir yX13_routeStop := ⟨wd2133, wd2134⟩
def m_X13_findsShops (n : Nat) (k1 : Nat) (σ : xS) : Option xS :=
  xlet (xput σ 184 46 0) fun s1 => xlet (xput s1 184 47 0) fun s2 => loopF (fun rec4 (t3 : Int × xS) => xck 6 289 <| if (zI (t3.2 k1 (6 : Int).toNat)) ≤ (zI t3.1) then xlet (xput t3.2 184 46 (zand (t3.2 184 46) (zxor (t3.2 184 47) (-1)))) fun s7 => some s7 else xck (zI t3.1) 7 <| xlet (xput t3.2 208 (zI t3.1).toNat 0) fun s8 => xck (zI t3.1) 7 <| xlet (xput s8 209 (zI t3.1).toNat 1000000) fun s9 => xck (zI t3.1) 7 <| xlet (xput s9 210 (zI t3.1).toNat 0) fun s10 => loopF (fun rec12 (t11 : Int × xS) => xck 9 289 <| if (zI (t11.2 k1 (9 : Int).toNat)) ≤ (zI t11.1) then xlet (t3.1 + 1) fun v15 => rec4 (v15, t11.2) else (m_X13_isMeant k1 t11.1 t11.2).bind fun v16 => xj (fun (q20 : xS) => xlet (t11.1 + 1) fun v21 => rec12 (v21, q20)) fun J18 => if (zI v16) = 0 then J18 t11.2 else (m_X13_order k1 t11.1 0 t11.2).bind fun v23 => if (zI v23) = (zI t3.1) then xlet (xput t11.2 184 46 (zor (t11.2 184 46) (zshl 1 t3.1))) fun s25 => (m_X13_isReady n k1 t11.1 s25).bind fun v26 => xj (fun (q29 : xS) => xck (zI t3.1) 7 <| (m_X13_order k1 t11.1 3 q29).bind fun v30 => xck (zI t3.1) 7 <| xlet (xput q29 209 (zI t3.1).toNat (m_X13_lesser (q29 209 (zI t3.1).toNat) v30)) fun s31 => xck (zI t3.1) 7 <| (m_X13_order k1 t11.1 2 s31).bind fun v32 => xck (zI t3.1) 7 <| xlet (xput s31 210 (zI t3.1).toNat ((s31 210 (zI t3.1).toNat) + v32)) fun s33 => J18 s33) fun J27 => if (zI v26) = 0 then xlet (xput s25 184 47 (zor (s25 184 47) (zshl 1 t3.1))) fun s37 => J27 s37 else xck (zI t3.1) 7 <| (m_X13_readyAt n k1 t11.1 s25).bind fun v35 => xck (zI t3.1) 7 <| xlet (xput s25 208 (zI t3.1).toNat (m_X13_greater (s25 208 (zI t3.1).toNat) v35)) fun s36 => J27 s36 else J18 t11.2) n (0, s10)) n (0, s2)
set_option maxHeartbeats 4000000 in
set_option maxRecDepth 100000 in
theorem wk_X13_findsShops {X : xX} {Qf : xS → State → Prop} {n : Nat} {k1 : Nat} {σ : xS} (C : xCx X cX13_findsShops "BakeryNightModel" none { frames := 5, cells := 0, slots := 0, locals := 114 } 4) (hQ : ∀ τ, Qf τ = xQf X WW (none, τ)) (hk1 : xAt WW k1 0 289) : WO X Qf WW σ 0 [(0, .ref (xqa (xXE X).2.2 184)), (1, .ref (xqa (xXE X).2.2 k1))] [] (m_X13_findsShops n k1 σ) := by
  unfold m_X13_findsShops
  refine x_aload_n C 0 dX13_findsShops_0 rfl rfl ?_
  refine x_iconst C (0) dX13_findsShops_1 rfl ?_
  refine x_put C 46 0 cls_X13 at_X13 (by decide) wd1548 rfl rfl rfl rfl (xV_pI rfl) dX13_findsShops_2 ?_
  refine x_letS (fun s1 => ?_)
  refine x_aload_n C 0 dX13_findsShops_5 rfl rfl ?_
  refine x_iconst C (0) dX13_findsShops_6 rfl ?_
  refine x_put C 47 0 cls_X13 at_X13 (by decide) wd1549 rfl rfl rfl rfl (xV_pI rfl) dX13_findsShops_7 ?_
  refine x_letS (fun s2 => ?_)
  refine x_iconst C (0) dX13_findsShops_10 rfl ?_
  refine x_istore_n (L' := [(2, _), (0, _), (1, _)]) C dX13_findsShops_11 rfl (by decide) rfl ?_
  refine x_pick [1, 2, 0] rfl ?_
  refine x_loop (fun t3 : Int × xS => t3.2) (fun t3 : Int × xS => [(0, .ref (xqa (xXE X).2.2 184)), (1, .ref (xqa (xXE X).2.2 k1)), (2, iV t3.1)]) (fun rec4 hr5 t3 => ?_) n (0, s2)
  refine x_iload_n C 2 dX13_findsShops_12 rfl rfl ?_
  refine x_aload_n C 1 dX13_findsShops_13 rfl rfl ?_
  refine x_bipush C (6) dX13_findsShops_14 rfl ?_
  refine x_iald C hk1 (zIl _ rfl) dX13_findsShops_16 (fun _ => ?_)
  refine x_icmp_ge C 189 rfl rfl dX13_findsShops_17 rfl (fun c6 => x_op c6 ?_) (fun c6 => x_on c6 ?_)
  · refine x_aload_n C 0 dX13_findsShops_189 rfl rfl ?_
    refine x_aload_n C 0 dX13_findsShops_190 rfl rfl ?_
    refine x_get (v := iV (t3.2 184 46)) C 46 cls_X13 at_X13 (by decide) wd1548 rfl rfl dX13_findsShops_191 ?_
    refine x_aload_n C 0 dX13_findsShops_194 rfl rfl ?_
    refine x_get (v := iV (t3.2 184 47)) C 47 cls_X13 at_X13 (by decide) wd1549 rfl rfl dX13_findsShops_195 ?_
    refine x_iconst C (-1) dX13_findsShops_198 rfl ?_
    refine x_ixor C dX13_findsShops_199 ?_
    refine x_iand C dX13_findsShops_200 ?_
    refine x_put C 46 (zand (t3.2 184 46) (zxor (t3.2 184 47) (-1))) cls_X13 at_X13 (by decide) wd1548 rfl rfl rfl rfl (xV_pI rfl) dX13_findsShops_201 ?_
    refine x_letS (fun s7 => ?_)
    exact x_vretQ C (hQ _) rfl dX13_findsShops_204
  · refine x_aload_n C 0 dX13_findsShops_20 rfl rfl ?_
    refine x_get (v := .ref (xqa (xXE X).2.2 208)) C 43 cls_X13 at_X13 (by decide) wd1545 rfl (xV_r (rt_X13_shopReady  _) rfl) dX13_findsShops_21 ?_
    refine x_iload_n C 2 dX13_findsShops_24 rfl rfl ?_
    refine x_iconst C (0) dX13_findsShops_25 rfl ?_
    refine x_iast C at_X13_shopReady rfl dX13_findsShops_26 (fun _ => ?_)
    refine x_letS (fun s8 => ?_)
    refine x_aload_n C 0 dX13_findsShops_27 rfl rfl ?_
    refine x_get (v := .ref (xqa (xXE X).2.2 209)) C 44 cls_X13 at_X13 (by decide) wd1546 rfl (xV_r (rt_X13_shopDue  _) rfl) dX13_findsShops_28 ?_
    refine x_iload_n C 2 dX13_findsShops_31 rfl rfl ?_
    refine x_ldcw C (1000000) wd1932 rfl dX13_findsShops_32 ?_
    refine x_iast C at_X13_shopDue rfl dX13_findsShops_35 (fun _ => ?_)
    refine x_letS (fun s9 => ?_)
    refine x_aload_n C 0 dX13_findsShops_36 rfl rfl ?_
    refine x_get (v := .ref (xqa (xXE X).2.2 210)) C 45 cls_X13 at_X13 (by decide) wd1547 rfl (xV_r (rt_X13_shopLoad  _) rfl) dX13_findsShops_37 ?_
    refine x_iload_n C 2 dX13_findsShops_40 rfl rfl ?_
    refine x_iconst C (0) dX13_findsShops_41 rfl ?_
    refine x_iast C at_X13_shopLoad rfl dX13_findsShops_42 (fun _ => ?_)
    refine x_letS (fun s10 => ?_)
    refine x_iconst C (0) dX13_findsShops_43 rfl ?_
    refine x_istore_n (L' := [(3, _), (0, _), (1, _), (2, _)]) C dX13_findsShops_44 rfl (by decide) rfl ?_
    refine x_pick [1, 2, 3, 0] rfl ?_
    refine x_loop (fun t11 : Int × xS => t11.2) (fun t11 : Int × xS => [(0, .ref (xqa (xXE X).2.2 184)), (1, .ref (xqa (xXE X).2.2 k1)), (2, iV t3.1), (3, iV t11.1)]) (fun rec12 hr13 t11 => ?_) n (0, s10)
    refine x_iload_n C 3 dX13_findsShops_45 rfl rfl ?_
    refine x_aload_n C 1 dX13_findsShops_46 rfl rfl ?_
    refine x_bipush C (9) dX13_findsShops_47 rfl ?_
    refine x_iald C hk1 (zIl _ rfl) dX13_findsShops_49 (fun _ => ?_)
    refine x_icmp_ge C 183 rfl rfl dX13_findsShops_50 rfl (fun c14 => x_op c14 ?_) (fun c14 => x_on c14 ?_)
    · refine x_inc C 2 (f := _) dX13_findsShops_183 rfl (by decide) (1) rfl (fun v15 => ?_)
      refine x_reL (L' := [(2, _), (0, _), (1, _), (3, _)]) rfl ?_
      refine x_goto C 12 dX13_findsShops_186 rfl ?_
      refine x_pick [1, 2, 0] rfl ?_
      exact hr5 (v15, t11.2)
    · refine x_aload_n C 0 dX13_findsShops_53 rfl rfl ?_
      refine x_aload_n C 1 dX13_findsShops_54 rfl rfl ?_
      refine x_iload_n C 3 dX13_findsShops_55 rfl rfl ?_
      refine x_callV C (ct_X13_isMeant _ _ k1 t11.1 t11.2 hk1) mt_X13_isMeant vr_X13_isMeant wd1875 cls_X13 at_X13 rfl ⟨rfl, rfl, Nat.le_of_ble_eq_true rfl, Nat.le_of_ble_eq_true rfl⟩ rfl (by decide) dX13_findsShops_56 (kI (fun v16 => ?_))
      refine x_join (fun J => ∀ q20 : xS, WO X Qf WW q20 177 [(0, .ref (xqa (xXE X).2.2 184)), (1, .ref (xqa (xXE X).2.2 k1)), (2, iV t3.1), (3, iV t11.1)] [] (J q20)) ?_ ?_
      · intro q20
        refine x_inc C 3 (f := _) dX13_findsShops_177 rfl (by decide) (1) rfl (fun v21 => ?_)
        refine x_reL (L' := [(3, _), (0, _), (1, _), (2, _)]) rfl ?_
        refine x_goto C 45 dX13_findsShops_180 rfl ?_
        refine x_pick [1, 2, 3, 0] rfl ?_
        exact hr13 (v21, q20)
      · intro J18 hJ19
        refine x_if_eq C 177 rfl dX13_findsShops_59 rfl (fun c22 => x_op c22 ?_) (fun c22 => x_on c22 ?_)
        · refine x_pick [0, 1, 2, 3] rfl ?_
          exact hJ19 t11.2
        · refine x_aload_n C 0 dX13_findsShops_62 rfl rfl ?_
          refine x_aload_n C 1 dX13_findsShops_63 rfl rfl ?_
          refine x_iload_n C 3 dX13_findsShops_64 rfl rfl ?_
          refine x_iconst C (0) dX13_findsShops_65 rfl ?_
          refine x_callV C (ct_X13_order _ _ k1 t11.1 0 t11.2 hk1) mt_X13_order vr_X13_order wd1879 cls_X13 at_X13 rfl ⟨rfl, rfl, Nat.le_of_ble_eq_true rfl, Nat.le_of_ble_eq_true rfl⟩ rfl (by decide) dX13_findsShops_66 (kI (fun v23 => ?_))
          refine x_iload_n C 2 dX13_findsShops_69 rfl rfl ?_
          refine x_icmp_eq C 76 rfl rfl dX13_findsShops_70 rfl (fun c24 => x_op c24 ?_) (fun c24 => x_on c24 ?_)
          · refine x_aload_n C 0 dX13_findsShops_76 rfl rfl ?_
            refine x_dup C dX13_findsShops_77 rfl ?_
            refine x_get (v := iV (t11.2 184 46)) C 46 cls_X13 at_X13 (by decide) wd1548 rfl rfl dX13_findsShops_78 ?_
            refine x_iconst C (1) dX13_findsShops_81 rfl ?_
            refine x_iload_n C 2 dX13_findsShops_82 rfl rfl ?_
            refine x_ishl C dX13_findsShops_83 ?_
            refine x_ior C dX13_findsShops_84 ?_
            refine x_put C 46 (zor (t11.2 184 46) (zshl 1 t3.1)) cls_X13 at_X13 (by decide) wd1548 rfl rfl rfl rfl (xV_pI rfl) dX13_findsShops_85 ?_
            refine x_letS (fun s25 => ?_)
            refine x_aload_n C 0 dX13_findsShops_88 rfl rfl ?_
            refine x_aload_n C 1 dX13_findsShops_89 rfl rfl ?_
            refine x_iload_n C 3 dX13_findsShops_90 rfl rfl ?_
            refine x_callV C (ct_X13_isReady _ _ n k1 t11.1 s25 hk1) mt_X13_isReady vr_X13_isReady wd2075 cls_X13 at_X13 rfl ⟨rfl, rfl, Nat.le_of_ble_eq_true rfl, Nat.le_of_ble_eq_true rfl⟩ rfl (by decide) dX13_findsShops_91 (kI (fun v26 => ?_))
            refine x_join (fun J => ∀ q29 : xS, WO X Qf WW q29 134 [(0, .ref (xqa (xXE X).2.2 184)), (1, .ref (xqa (xXE X).2.2 k1)), (2, iV t3.1), (3, iV t11.1)] [] (J q29)) ?_ ?_
            · intro q29
              refine x_aload_n C 0 dX13_findsShops_134 rfl rfl ?_
              refine x_get (v := .ref (xqa (xXE X).2.2 209)) C 44 cls_X13 at_X13 (by decide) wd1546 rfl (xV_r (rt_X13_shopDue  _) rfl) dX13_findsShops_135 ?_
              refine x_iload_n C 2 dX13_findsShops_138 rfl rfl ?_
              refine x_aload_n C 0 dX13_findsShops_139 rfl rfl ?_
              refine x_aload_n C 0 dX13_findsShops_140 rfl rfl ?_
              refine x_get (v := .ref (xqa (xXE X).2.2 209)) C 44 cls_X13 at_X13 (by decide) wd1546 rfl (xV_r (rt_X13_shopDue  _) rfl) dX13_findsShops_141 ?_
              refine x_iload_n C 2 dX13_findsShops_144 rfl rfl ?_
              refine x_iald C at_X13_shopDue rfl dX13_findsShops_145 (fun _ => ?_)
              refine x_aload_n C 0 dX13_findsShops_146 rfl rfl ?_
              refine x_aload_n C 1 dX13_findsShops_147 rfl rfl ?_
              refine x_iload_n C 3 dX13_findsShops_148 rfl rfl ?_
              refine x_iconst C (3) dX13_findsShops_149 rfl ?_
              refine x_callV C (ct_X13_order _ _ k1 t11.1 3 q29 hk1) mt_X13_order vr_X13_order wd1879 cls_X13 at_X13 rfl ⟨rfl, rfl, Nat.le_of_ble_eq_true rfl, Nat.le_of_ble_eq_true rfl⟩ rfl (Nat.le_of_ble_eq_true rfl) dX13_findsShops_150 (kI (fun v30 => ?_))
              refine x_callV C (ct_X13_lesser _ _ (q29 209 (zI t3.1).toNat) v30 q29) mt_X13_lesser vr_X13_lesser wd1933 cls_X13 at_X13 rfl ⟨rfl, rfl, Nat.le_of_ble_eq_true rfl, Nat.le_of_ble_eq_true rfl⟩ rfl (Nat.le_of_ble_eq_true rfl) dX13_findsShops_153 (kP ?_)
              refine x_iast C at_X13_shopDue rfl dX13_findsShops_156 (fun _ => ?_)
              refine x_letS (fun s31 => ?_)
              refine x_aload_n C 0 dX13_findsShops_157 rfl rfl ?_
              refine x_get (v := .ref (xqa (xXE X).2.2 210)) C 45 cls_X13 at_X13 (by decide) wd1547 rfl (xV_r (rt_X13_shopLoad  _) rfl) dX13_findsShops_158 ?_
              refine x_iload_n C 2 dX13_findsShops_161 rfl rfl ?_
              refine x_aload_n C 0 dX13_findsShops_162 rfl rfl ?_
              refine x_get (v := .ref (xqa (xXE X).2.2 210)) C 45 cls_X13 at_X13 (by decide) wd1547 rfl (xV_r (rt_X13_shopLoad  _) rfl) dX13_findsShops_163 ?_
              refine x_iload_n C 2 dX13_findsShops_166 rfl rfl ?_
              refine x_iald C at_X13_shopLoad rfl dX13_findsShops_167 (fun _ => ?_)
              refine x_aload_n C 0 dX13_findsShops_168 rfl rfl ?_
              refine x_aload_n C 1 dX13_findsShops_169 rfl rfl ?_
              refine x_iload_n C 3 dX13_findsShops_170 rfl rfl ?_
              refine x_iconst C (2) dX13_findsShops_171 rfl ?_
              refine x_callV C (ct_X13_order _ _ k1 t11.1 2 s31 hk1) mt_X13_order vr_X13_order wd1879 cls_X13 at_X13 rfl ⟨rfl, rfl, Nat.le_of_ble_eq_true rfl, Nat.le_of_ble_eq_true rfl⟩ rfl (Nat.le_of_ble_eq_true rfl) dX13_findsShops_172 (kI (fun v32 => ?_))
              refine x_iadd C dX13_findsShops_175 ?_
              refine x_iast C at_X13_shopLoad rfl dX13_findsShops_176 (fun _ => ?_)
              refine x_letS (fun s33 => ?_)
              refine x_pick [0, 1, 2, 3] rfl ?_
              exact hJ19 s33
            · intro J27 hJ28
              refine x_if_ne C 112 rfl dX13_findsShops_94 rfl (fun c34 => x_on c34 ?_) (fun c34 => x_op c34 ?_)
              · refine x_aload_n C 0 dX13_findsShops_112 rfl rfl ?_
                refine x_get (v := .ref (xqa (xXE X).2.2 208)) C 43 cls_X13 at_X13 (by decide) wd1545 rfl (xV_r (rt_X13_shopReady  _) rfl) dX13_findsShops_113 ?_
                refine x_iload_n C 2 dX13_findsShops_116 rfl rfl ?_
                refine x_aload_n C 0 dX13_findsShops_117 rfl rfl ?_
                refine x_aload_n C 0 dX13_findsShops_118 rfl rfl ?_
                refine x_get (v := .ref (xqa (xXE X).2.2 208)) C 43 cls_X13 at_X13 (by decide) wd1545 rfl (xV_r (rt_X13_shopReady  _) rfl) dX13_findsShops_119 ?_
                refine x_iload_n C 2 dX13_findsShops_122 rfl rfl ?_
                refine x_iald C at_X13_shopReady rfl dX13_findsShops_123 (fun _ => ?_)
                refine x_aload_n C 0 dX13_findsShops_124 rfl rfl ?_
                refine x_aload_n C 1 dX13_findsShops_125 rfl rfl ?_
                refine x_iload_n C 3 dX13_findsShops_126 rfl rfl ?_
                refine x_callV C (ct_X13_readyAt _ _ n k1 t11.1 s25 hk1) mt_X13_readyAt vr_X13_readyAt wd2071 cls_X13 at_X13 rfl ⟨rfl, rfl, Nat.le_of_ble_eq_true rfl, Nat.le_of_ble_eq_true rfl⟩ rfl (Nat.le_of_ble_eq_true rfl) dX13_findsShops_127 (kI (fun v35 => ?_))
                refine x_callV C (ct_X13_greater _ _ (s25 208 (zI t3.1).toNat) v35 s25) mt_X13_greater vr_X13_greater wd1835 cls_X13 at_X13 rfl ⟨rfl, rfl, Nat.le_of_ble_eq_true rfl, Nat.le_of_ble_eq_true rfl⟩ rfl (Nat.le_of_ble_eq_true rfl) dX13_findsShops_130 (kP ?_)
                refine x_iast C at_X13_shopReady rfl dX13_findsShops_133 (fun _ => ?_)
                refine x_letS (fun s36 => ?_)
                refine x_pick [0, 1, 2, 3] rfl ?_
                exact hJ28 s36
              · refine x_aload_n C 0 dX13_findsShops_97 rfl rfl ?_
                refine x_dup C dX13_findsShops_98 rfl ?_
                refine x_get (v := iV (s25 184 47)) C 47 cls_X13 at_X13 (by decide) wd1549 rfl rfl dX13_findsShops_99 ?_
                refine x_iconst C (1) dX13_findsShops_102 rfl ?_
                refine x_iload_n C 2 dX13_findsShops_103 rfl rfl ?_
                refine x_ishl C dX13_findsShops_104 ?_
                refine x_ior C dX13_findsShops_105 ?_
                refine x_put C 47 (zor (s25 184 47) (zshl 1 t3.1)) cls_X13 at_X13 (by decide) wd1549 rfl rfl rfl rfl (xV_pI rfl) dX13_findsShops_106 ?_
                refine x_letS (fun s37 => ?_)
                refine x_goto C 134 dX13_findsShops_109 rfl ?_
                refine x_pick [0, 1, 2, 3] rfl ?_
                exact hJ28 s37
          · refine x_goto C 177 dX13_findsShops_73 rfl ?_
            refine x_pick [0, 1, 2, 3] rfl ?_
            exact hJ19 t11.2
theorem ct_X13_findsShops (l : Launch) (E : xE) (n : Nat) (k1 : Nat) (σ : xS) (hk1 : xAt WW k1 0 289)  : xMet l E yX13_findsShops cX13_findsShops 4 none { frames := 5, cells := 0, slots := 0, locals := 114 } [.ref (xqa E.2.2 184), .ref (xqa E.2.2 k1)] WW WW σ (xrV (m_X13_findsShops n k1 σ)) := by
  refine xMet.of0 (by decide) (Nat.le_of_ble_eq_true rfl) rfl rfl (fun X hE C => ?_)
  subst hE
  exact xMap (fun q => (none, q)) (wk_X13_findsShops C (fun _ => rfl) hk1)
theorem mt_X13_findsShops : xMth yX13_findsShops cX13_findsShops 4 none 1 := ⟨wd2156, wd164, ⟨by decide, by decide, rfl⟩⟩
theorem vr_X13_findsShops : xVir yX13_findsShops := ⟨wd2155, wd134⟩
def m_X13_loadOf (n : Nat) (p1 : Int) (σ : xS) : Option Int :=
  loopF (fun rec2 (t1 : Int × Int) => if 7 ≤ (zI t1.2) then some t1.1 else xj (fun (q7 : Int) => xlet (t1.1 + q7) fun v8 => xlet (t1.2 + 1) fun v9 => rec2 (v8, v9)) fun J5 => if (m_X13_has p1 t1.2) = 0 then J5 0 else xck (zI t1.2) 7 <| J5 (σ 210 (zI t1.2).toNat)) n (0, 0)
set_option maxHeartbeats 4000000 in
set_option maxRecDepth 100000 in
theorem wk_X13_loadOf {X : xX} {Qf : Int → State → Prop} {n : Nat} {p1 : Int} {σ : xS} (C : xCx X cX13_loadOf "BakeryNightModel" (some .int) { frames := 1, cells := 0, slots := 0, locals := 22 } 4) (hQ : ∀ v, Qf v = xQf X WW (some (iV v), σ))  : WO X Qf WW σ 0 [(0, .ref (xqa (xXE X).2.2 184)), (1, iV p1)] [] (m_X13_loadOf n p1 σ) := by
  unfold m_X13_loadOf
  refine x_iconst C (0) dX13_loadOf_0 rfl ?_
  refine x_istore_n (L' := [(2, _), (0, _), (1, _)]) C dX13_loadOf_1 rfl (by decide) rfl ?_
  refine x_iconst C (0) dX13_loadOf_2 rfl ?_
  refine x_istore_n (L' := [(3, _), (2, _), (0, _), (1, _)]) C dX13_loadOf_3 rfl (by decide) rfl ?_
  refine x_pick [2, 3, 1, 0] rfl ?_
  refine x_loop (fun t1 : Int × Int => σ) (fun t1 : Int × Int => [(0, .ref (xqa (xXE X).2.2 184)), (1, iV p1), (2, iV t1.1), (3, iV t1.2)]) (fun rec2 hr3 t1 => ?_) n (0, 0)
  refine x_iload_n C 3 dX13_loadOf_4 rfl rfl ?_
  refine x_bipush C (7) dX13_loadOf_5 rfl ?_
  refine x_icmp_ge C 38 rfl (zIl _ rfl) dX13_loadOf_7 rfl (fun c4 => x_op c4 ?_) (fun c4 => x_on c4 ?_)
  · refine x_iload_n C 2 dX13_loadOf_38 rfl rfl ?_
    exact x_iretQ C (hQ _) rfl dX13_loadOf_39
  · refine x_iload_n C 2 dX13_loadOf_10 rfl rfl ?_
    refine x_aload_n C 0 dX13_loadOf_11 rfl rfl ?_
    refine x_iload_n C 1 dX13_loadOf_12 rfl rfl ?_
    refine x_iload_n C 3 dX13_loadOf_13 rfl rfl ?_
    refine x_callV C (ct_X13_has _ _ p1 t1.2 σ) mt_X13_has vr_X13_has wd1746 cls_X13 at_X13 rfl ⟨rfl, rfl, Nat.le_of_ble_eq_true rfl, Nat.le_of_ble_eq_true rfl⟩ rfl (Nat.le_of_ble_eq_true rfl) dX13_loadOf_14 (kP ?_)
    refine x_join (fun J => ∀ q7 : Int, WO X Qf WW σ 30 [(0, .ref (xqa (xXE X).2.2 184)), (1, iV p1), (3, iV t1.2)] [iV q7, iV t1.1] (J q7)) ?_ ?_
    · intro q7
      refine x_iadd C dX13_loadOf_30 ?_
      refine x_letI (fun v8 => ?_)
      refine x_istore_n (L' := [(2, _), (0, _), (1, _), (3, _)]) C dX13_loadOf_31 rfl (by decide) rfl ?_
      refine x_inc C 3 (f := _) dX13_loadOf_32 rfl (by decide) (1) rfl (fun v9 => ?_)
      refine x_reL (L' := [(3, _), (2, _), (0, _), (1, _)]) rfl ?_
      refine x_goto C 4 dX13_loadOf_35 rfl ?_
      refine x_pick [2, 3, 1, 0] rfl ?_
      exact hr3 (v8, v9)
    · intro J5 hJ6
      refine x_if_eq C 29 (zI_bo (bo_X13_has _ _)) dX13_loadOf_17 rfl (fun c10 => x_op c10 ?_) (fun c10 => x_on c10 ?_)
      · refine x_iconst C (0) dX13_loadOf_29 rfl ?_
        refine x_pick [0, 1, 3] rfl ?_
        exact hJ6 0
      · refine x_aload_n C 0 dX13_loadOf_20 rfl rfl ?_
        refine x_get (v := .ref (xqa (xXE X).2.2 210)) C 45 cls_X13 at_X13 (by decide) wd1547 rfl (xV_r (rt_X13_shopLoad  _) rfl) dX13_loadOf_21 ?_
        refine x_iload_n C 3 dX13_loadOf_24 rfl rfl ?_
        refine x_iald C at_X13_shopLoad rfl dX13_loadOf_25 (fun _ => ?_)
        refine x_goto C 30 dX13_loadOf_26 rfl ?_
        refine x_pick [0, 1, 3] rfl ?_
        exact hJ6 (σ 210 (zI t1.2).toNat)
theorem ct_X13_loadOf (l : Launch) (E : xE) (n : Nat) (p1 : Int) (σ : xS)   : xMet l E yX13_loadOf cX13_loadOf 4 (some .int) { frames := 1, cells := 0, slots := 0, locals := 22 } [.ref (xqa E.2.2 184), iV p1] WW WW σ (xrI (m_X13_loadOf n p1 σ) σ) := by
  refine xMet.of0 (by decide) (Nat.le_of_ble_eq_true rfl) rfl rfl (fun X hE C => ?_)
  subst hE
  exact xMap (fun v => (some (iV v), σ)) (wk_X13_loadOf C (fun _ => rfl) )
theorem mt_X13_loadOf : xMth yX13_loadOf cX13_loadOf 4 (some .int) 1 := ⟨wd2172, wd164, ⟨by decide, by decide, rfl⟩⟩
theorem vr_X13_loadOf : xVir yX13_loadOf := ⟨wd2171, wd138⟩
def m_X13_carries (n : Nat) (k1 : Nat) (p2 : Int) (σ : xS) : Option Int :=
  xj (fun (q3 : Int) => xbo q3 (some q3)) fun J1 => xj (fun (q6 : Unit) => J1 1) fun J4 => xj (fun (q9 : Unit) => xck (zI p2) 3 <| (m_X13_loadOf n (σ 211 (zI p2).toNat) σ).bind fun v10 => xck (zI (166 + p2)) 289 <| if (zI (σ k1 (zI (166 + p2)).toNat)) < (zI v10) then J1 0 else J4 ()) fun J7 => if (zI (σ 184 50)) = 0 then J7 () else if (zI p2) = 0 then J4 () else J7 ()
set_option maxHeartbeats 4000000 in
set_option maxRecDepth 100000 in
theorem wk_X13_carries {X : xX} {Qf : Int → State → Prop} {n : Nat} {k1 : Nat} {p2 : Int} {σ : xS} (C : xCx X cX13_carries "BakeryNightModel" (some .boolean) { frames := 2, cells := 0, slots := 0, locals := 45 } 3) (hQ : ∀ v, Qf v = xQf X WW (some (iV v), σ)) (hk1 : xAt WW k1 0 289) : WO X Qf WW σ 0 [(0, .ref (xqa (xXE X).2.2 184)), (1, .ref (xqa (xXE X).2.2 k1)), (2, iV p2)] [] (m_X13_carries n k1 p2 σ) := by
  unfold m_X13_carries
  refine x_aload_n C 0 dX13_carries_0 rfl rfl ?_
  refine x_get (v := iV (σ 184 50)) C 50 cls_X13 at_X13 (by decide) wd1552 rfl rfl dX13_carries_1 ?_
  refine x_join (fun J => ∀ q3 : Int, WO X Qf WW σ 36 [] [iV q3] (J q3)) ?_ ?_
  · intro q3
    exact x_bo (fun hb => x_zretQ C (hQ _) rfl hb dX13_carries_36)
  · intro J1 hJ2
    refine x_join (fun J => ∀ q6 : Unit, WO X Qf WW σ 31 [] [] (J q6)) ?_ ?_
    · intro q6
      refine x_iconst C (1) dX13_carries_31 rfl ?_
      refine x_goto C 36 dX13_carries_32 rfl ?_
      refine x_pick [] rfl ?_
      exact hJ2 1
    · intro J4 hJ5
      refine x_join (fun J => ∀ q9 : Unit, WO X Qf WW σ 11 [(0, .ref (xqa (xXE X).2.2 184)), (1, .ref (xqa (xXE X).2.2 k1)), (2, iV p2)] [] (J q9)) ?_ ?_
      · intro q9
        refine x_aload_n C 0 dX13_carries_11 rfl rfl ?_
        refine x_aload_n C 0 dX13_carries_12 rfl rfl ?_
        refine x_get (v := .ref (xqa (xXE X).2.2 211)) C 48 cls_X13 at_X13 (by decide) wd1550 rfl (xV_r (rt_X13_vanSet  _) rfl) dX13_carries_13 ?_
        refine x_iload_n C 2 dX13_carries_16 rfl rfl ?_
        refine x_iald C at_X13_vanSet rfl dX13_carries_17 (fun _ => ?_)
        refine x_callV C (ct_X13_loadOf _ _ n (σ 211 (zI p2).toNat) σ) mt_X13_loadOf vr_X13_loadOf wd2169 cls_X13 at_X13 rfl ⟨rfl, rfl, Nat.le_of_ble_eq_true rfl, Nat.le_of_ble_eq_true rfl⟩ rfl (by decide) dX13_carries_18 (kI (fun v10 => ?_))
        refine x_aload_n C 1 dX13_carries_21 rfl rfl ?_
        refine x_sipush C (166) dX13_carries_22 rfl ?_
        refine x_iload_n C 2 dX13_carries_25 rfl rfl ?_
        refine x_iadd C dX13_carries_26 ?_
        refine x_iald C hk1 rfl dX13_carries_27 (fun _ => ?_)
        refine x_icmp_gt C 35 rfl rfl dX13_carries_28 rfl (fun c11 => x_op c11 ?_) (fun c11 => x_on c11 ?_)
        · refine x_iconst C (0) dX13_carries_35 rfl ?_
          refine x_pick [] rfl ?_
          exact hJ2 0
        · refine x_pick [] rfl ?_
          exact hJ5 ()
      · intro J7 hJ8
        refine x_if_eq C 11 rfl dX13_carries_4 rfl (fun c12 => x_op c12 ?_) (fun c12 => x_on c12 ?_)
        · refine x_pick [0, 1, 2] rfl ?_
          exact hJ8 ()
        · refine x_iload_n C 2 dX13_carries_7 rfl rfl ?_
          refine x_if_eq C 31 rfl dX13_carries_8 rfl (fun c13 => x_op c13 ?_) (fun c13 => x_on c13 ?_)
          · refine x_pick [] rfl ?_
            exact hJ5 ()
          · refine x_pick [0, 1, 2] rfl ?_
            exact hJ8 ()
theorem ct_X13_carries (l : Launch) (E : xE) (n : Nat) (k1 : Nat) (p2 : Int) (σ : xS) (hk1 : xAt WW k1 0 289)  : xMet l E yX13_carries cX13_carries 3 (some .boolean) { frames := 2, cells := 0, slots := 0, locals := 45 } [.ref (xqa E.2.2 184), .ref (xqa E.2.2 k1), iV p2] WW WW σ (xrI (m_X13_carries n k1 p2 σ) σ) := by
  refine xMet.of0 (by decide) (Nat.le_of_ble_eq_true rfl) rfl rfl (fun X hE C => ?_)
  subst hE
  exact xMap (fun v => (some (iV v), σ)) (wk_X13_carries C (fun _ => rfl) hk1)
theorem mt_X13_carries : xMth yX13_carries cX13_carries 3 (some .boolean) 2 := ⟨wd2168, wd164, ⟨by decide, by decide, rfl⟩⟩
theorem vr_X13_carries : xVir yX13_carries := ⟨wd2167, wd137⟩
def m_X13_leaves (n : Nat) (p1 : Int) (σ : xS) : Option Int :=
  loopF (fun rec2 (t1 : Int × Int) => if 7 ≤ (zI t1.2) then some t1.1 else xck (zI p1) 3 <| xj (fun (q7 : Int) => xlet (t1.2 + 1) fun v8 => rec2 (q7, v8)) fun J5 => if (m_X13_has (σ 211 (zI p1).toNat) t1.2) = 0 then J5 t1.1 else xck (zI t1.2) 7 <| J5 (m_X13_greater t1.1 (σ 208 (zI t1.2).toNat))) n (0, 0)
set_option maxHeartbeats 4000000 in
set_option maxRecDepth 100000 in
theorem wk_X13_leaves {X : xX} {Qf : Int → State → Prop} {n : Nat} {p1 : Int} {σ : xS} (C : xCx X cX13_leaves "BakeryNightModel" (some .int) { frames := 1, cells := 0, slots := 0, locals := 22 } 4) (hQ : ∀ v, Qf v = xQf X WW (some (iV v), σ))  : WO X Qf WW σ 0 [(0, .ref (xqa (xXE X).2.2 184)), (1, iV p1)] [] (m_X13_leaves n p1 σ) := by
  unfold m_X13_leaves
  refine x_iconst C (0) dX13_leaves_0 rfl ?_
  refine x_istore_n (L' := [(2, _), (0, _), (1, _)]) C dX13_leaves_1 rfl (by decide) rfl ?_
  refine x_iconst C (0) dX13_leaves_2 rfl ?_
  refine x_istore_n (L' := [(3, _), (2, _), (0, _), (1, _)]) C dX13_leaves_3 rfl (by decide) rfl ?_
  refine x_pick [2, 3, 1, 0] rfl ?_
  refine x_loop (fun t1 : Int × Int => σ) (fun t1 : Int × Int => [(0, .ref (xqa (xXE X).2.2 184)), (1, iV p1), (2, iV t1.1), (3, iV t1.2)]) (fun rec2 hr3 t1 => ?_) n (0, 0)
  refine x_iload_n C 3 dX13_leaves_4 rfl rfl ?_
  refine x_bipush C (7) dX13_leaves_5 rfl ?_
  refine x_icmp_ge C 46 rfl (zIl _ rfl) dX13_leaves_7 rfl (fun c4 => x_op c4 ?_) (fun c4 => x_on c4 ?_)
  · refine x_iload_n C 2 dX13_leaves_46 rfl rfl ?_
    exact x_iretQ C (hQ _) rfl dX13_leaves_47
  · refine x_aload_n C 0 dX13_leaves_10 rfl rfl ?_
    refine x_aload_n C 0 dX13_leaves_11 rfl rfl ?_
    refine x_get (v := .ref (xqa (xXE X).2.2 211)) C 48 cls_X13 at_X13 (by decide) wd1550 rfl (xV_r (rt_X13_vanSet  _) rfl) dX13_leaves_12 ?_
    refine x_iload_n C 1 dX13_leaves_15 rfl rfl ?_
    refine x_iald C at_X13_vanSet rfl dX13_leaves_16 (fun _ => ?_)
    refine x_iload_n C 3 dX13_leaves_17 rfl rfl ?_
    refine x_callV C (ct_X13_has _ _ (σ 211 (zI p1).toNat) t1.2 σ) mt_X13_has vr_X13_has wd1746 cls_X13 at_X13 rfl ⟨rfl, rfl, Nat.le_of_ble_eq_true rfl, Nat.le_of_ble_eq_true rfl⟩ rfl (by decide) dX13_leaves_18 (kP ?_)
    refine x_join (fun J => ∀ q7 : Int, WO X Qf WW σ 39 [(0, .ref (xqa (xXE X).2.2 184)), (1, iV p1), (3, iV t1.2)] [iV q7] (J q7)) ?_ ?_
    · intro q7
      refine x_istore_n (L' := [(2, _), (0, _), (1, _), (3, _)]) C dX13_leaves_39 rfl (by decide) rfl ?_
      refine x_inc C 3 (f := _) dX13_leaves_40 rfl (by decide) (1) rfl (fun v8 => ?_)
      refine x_reL (L' := [(3, _), (2, _), (0, _), (1, _)]) rfl ?_
      refine x_goto C 4 dX13_leaves_43 rfl ?_
      refine x_pick [2, 3, 1, 0] rfl ?_
      exact hr3 (q7, v8)
    · intro J5 hJ6
      refine x_if_eq C 38 (zI_bo (bo_X13_has _ _)) dX13_leaves_21 rfl (fun c9 => x_op c9 ?_) (fun c9 => x_on c9 ?_)
      · refine x_iload_n C 2 dX13_leaves_38 rfl rfl ?_
        refine x_pick [0, 1, 3] rfl ?_
        exact hJ6 t1.1
      · refine x_aload_n C 0 dX13_leaves_24 rfl rfl ?_
        refine x_iload_n C 2 dX13_leaves_25 rfl rfl ?_
        refine x_aload_n C 0 dX13_leaves_26 rfl rfl ?_
        refine x_get (v := .ref (xqa (xXE X).2.2 208)) C 43 cls_X13 at_X13 (by decide) wd1545 rfl (xV_r (rt_X13_shopReady  _) rfl) dX13_leaves_27 ?_
        refine x_iload_n C 3 dX13_leaves_30 rfl rfl ?_
        refine x_iald C at_X13_shopReady rfl dX13_leaves_31 (fun _ => ?_)
        refine x_callV C (ct_X13_greater _ _ t1.1 (σ 208 (zI t1.2).toNat) σ) mt_X13_greater vr_X13_greater wd1835 cls_X13 at_X13 rfl ⟨rfl, rfl, Nat.le_of_ble_eq_true rfl, Nat.le_of_ble_eq_true rfl⟩ rfl (by decide) dX13_leaves_32 (kP ?_)
        refine x_goto C 39 dX13_leaves_35 rfl ?_
        refine x_pick [0, 1, 3] rfl ?_
        exact hJ6 (m_X13_greater t1.1 (σ 208 (zI t1.2).toNat))
theorem ct_X13_leaves (l : Launch) (E : xE) (n : Nat) (p1 : Int) (σ : xS)   : xMet l E yX13_leaves cX13_leaves 4 (some .int) { frames := 1, cells := 0, slots := 0, locals := 22 } [.ref (xqa E.2.2 184), iV p1] WW WW σ (xrI (m_X13_leaves n p1 σ) σ) := by
  refine xMet.of0 (by decide) (Nat.le_of_ble_eq_true rfl) rfl rfl (fun X hE C => ?_)
  subst hE
  exact xMap (fun v => (some (iV v), σ)) (wk_X13_leaves C (fun _ => rfl) )
theorem mt_X13_leaves : xMth yX13_leaves cX13_leaves 4 (some .int) 1 := ⟨wd2176, wd164, ⟨by decide, by decide, rfl⟩⟩
theorem vr_X13_leaves : xVir yX13_leaves := ⟨wd2175, wd139⟩
def m_X13_drives (n : Nat) (k1 : Nat) (σ : xS) : Option (Int × xS) :=
  loopF (fun rec2 (t1 : Int × Int × xS) => xck 8 289 <| if (zI (t1.2.2 k1 (8 : Int).toNat)) ≤ (zI t1.2.1) then some (t1.1, t1.2.2) else (m_X13_carries n k1 t1.2.1 t1.2.2).bind fun v5 => xj (fun (q8 : Unit) => some ((-1), t1.2.2)) fun J6 => if (zI v5) = 0 then J6 () else xck (zI t1.2.1) 3 <| xck (zI (8 * (t1.2.2 211 (zI t1.2.1).toNat))) 1024 <| if (zI (t1.2.2 206 (zI (8 * (t1.2.2 211 (zI t1.2.1).toNat))).toNat)) < 1000000 then xck (zI t1.2.1) 3 <| xck (zI (8 * (t1.2.2 211 (zI t1.2.1).toNat))) 1024 <| xlet (t1.1 + (t1.2.2 206 (zI (8 * (t1.2.2 211 (zI t1.2.1).toNat))).toNat)) fun v11 => xck (zI t1.2.1) 3 <| (m_X13_routes n k1 (t1.2.2 211 (zI t1.2.1).toNat) t1.2.2).bind fun s12 => (m_X13_leaves n t1.2.1 s12).bind fun v13 => loopF (fun rec15 (t14 : Int × Int × Int × xS) => if (zI (t14.2.2.2 184 42)) ≤ (zI t14.2.2.1) then xlet (t1.2.1 + 1) fun v18 => rec2 (v11, v18, t14.2.2.2) else xck (zI t14.2.2.1) 7 <| xck (zI (((8 * t14.2.1) + (t14.2.2.2 207 (zI t14.2.2.1).toNat)) + 1)) 64 <| xlet (t14.1 + (t14.2.2.2 205 (zI (((8 * t14.2.1) + (t14.2.2.2 207 (zI t14.2.2.1).toNat)) + 1)).toNat)) fun v19 => xck (zI t14.2.2.1) 7 <| xck (zI (t14.2.2.2 207 (zI t14.2.2.1).toNat)) 7 <| xlet (xput t14.2.2.2 213 (zI (t14.2.2.2 207 (zI t14.2.2.1).toNat)).toNat v19) fun s20 => xck (zI t14.2.2.1) 7 <| xlet ((s20 207 (zI t14.2.2.1).toNat) + 1) fun v21 => xlet (t14.2.2.1 + 1) fun v22 => rec15 (v19, v21, v22, s20)) n (v13, 0, 0, s12) else J6 ()) n (0, 0, σ)
set_option maxHeartbeats 4000000 in
set_option maxRecDepth 100000 in
theorem wk_X13_drives {X : xX} {Qf : (Int × xS) → State → Prop} {n : Nat} {k1 : Nat} {σ : xS} (C : xCx X cX13_drives "BakeryNightModel" (some .int) { frames := 3, cells := 0, slots := 0, locals := 67 } 7) (hQ : ∀ v τ, Qf (v, τ) = xQf X WW (some (iV v), τ)) (hk1 : xAt WW k1 0 289) : WO X Qf WW σ 0 [(0, .ref (xqa (xXE X).2.2 184)), (1, .ref (xqa (xXE X).2.2 k1))] [] (m_X13_drives n k1 σ) := by
  unfold m_X13_drives
  refine x_iconst C (0) dX13_drives_0 rfl ?_
  refine x_istore_n (L' := [(2, _), (0, _), (1, _)]) C dX13_drives_1 rfl (by decide) rfl ?_
  refine x_iconst C (0) dX13_drives_2 rfl ?_
  refine x_istore_n (L' := [(3, _), (2, _), (0, _), (1, _)]) C dX13_drives_3 rfl (by decide) rfl ?_
  refine x_pick [2, 3, 1, 0] rfl ?_
  refine x_loop (fun t1 : Int × Int × xS => t1.2.2) (fun t1 : Int × Int × xS => [(0, .ref (xqa (xXE X).2.2 184)), (1, .ref (xqa (xXE X).2.2 k1)), (2, iV t1.1), (3, iV t1.2.1)]) (fun rec2 hr3 t1 => ?_) n (0, 0, σ)
  refine x_iload_n C 3 dX13_drives_4 rfl rfl ?_
  refine x_aload_n C 1 dX13_drives_5 rfl rfl ?_
  refine x_bipush C (8) dX13_drives_6 rfl ?_
  refine x_iald C hk1 (zIl _ rfl) dX13_drives_8 (fun _ => ?_)
  refine x_icmp_ge C 155 rfl rfl dX13_drives_9 rfl (fun c4 => x_op c4 ?_) (fun c4 => x_on c4 ?_)
  · refine x_iload_n C 2 dX13_drives_155 rfl rfl ?_
    exact x_iretQ C (hQ _ _) rfl dX13_drives_156
  · refine x_aload_n C 0 dX13_drives_12 rfl rfl ?_
    refine x_aload_n C 1 dX13_drives_13 rfl rfl ?_
    refine x_iload_n C 3 dX13_drives_14 rfl rfl ?_
    refine x_callV C (ct_X13_carries _ _ n k1 t1.2.1 t1.2.2 hk1) mt_X13_carries vr_X13_carries wd2165 cls_X13 at_X13 rfl ⟨rfl, rfl, Nat.le_of_ble_eq_true rfl, Nat.le_of_ble_eq_true rfl⟩ rfl (by decide) dX13_drives_15 (kI (fun v5 => ?_))
    refine x_join (fun J => ∀ q8 : Unit, WO X Qf WW t1.2.2 41 [] [] (J q8)) ?_ ?_
    · intro q8
      refine x_iconst C (-1) dX13_drives_41 rfl ?_
      exact x_iretQ C (hQ _ _) rfl dX13_drives_42
    · intro J6 hJ7
      refine x_if_eq C 41 rfl dX13_drives_18 rfl (fun c9 => x_op c9 ?_) (fun c9 => x_on c9 ?_)
      · refine x_pick [] rfl ?_
        exact hJ7 ()
      · refine x_aload_n C 0 dX13_drives_21 rfl rfl ?_
        refine x_get (v := .ref (xqa (xXE X).2.2 206)) C 40 cls_X13 at_X13 (by decide) wd1542 rfl (xV_r (rt_X13_least  _) rfl) dX13_drives_22 ?_
        refine x_bipush C (8) dX13_drives_25 rfl ?_
        refine x_aload_n C 0 dX13_drives_27 rfl rfl ?_
        refine x_get (v := .ref (xqa (xXE X).2.2 211)) C 48 cls_X13 at_X13 (by decide) wd1550 rfl (xV_r (rt_X13_vanSet  _) rfl) dX13_drives_28 ?_
        refine x_iload_n C 3 dX13_drives_31 rfl rfl ?_
        refine x_iald C at_X13_vanSet rfl dX13_drives_32 (fun _ => ?_)
        refine x_imul C dX13_drives_33 ?_
        refine x_iald C at_X13_least rfl dX13_drives_34 (fun _ => ?_)
        refine x_ldcw C (1000000) wd1932 rfl dX13_drives_35 ?_
        refine x_icmp_lt C 43 rfl (zIl _ rfl) dX13_drives_38 rfl (fun c10 => x_op c10 ?_) (fun c10 => x_on c10 ?_)
        · refine x_iload_n C 2 dX13_drives_43 rfl rfl ?_
          refine x_aload_n C 0 dX13_drives_44 rfl rfl ?_
          refine x_get (v := .ref (xqa (xXE X).2.2 206)) C 40 cls_X13 at_X13 (by decide) wd1542 rfl (xV_r (rt_X13_least  _) rfl) dX13_drives_45 ?_
          refine x_bipush C (8) dX13_drives_48 rfl ?_
          refine x_aload_n C 0 dX13_drives_50 rfl rfl ?_
          refine x_get (v := .ref (xqa (xXE X).2.2 211)) C 48 cls_X13 at_X13 (by decide) wd1550 rfl (xV_r (rt_X13_vanSet  _) rfl) dX13_drives_51 ?_
          refine x_iload_n C 3 dX13_drives_54 rfl rfl ?_
          refine x_iald C at_X13_vanSet rfl dX13_drives_55 (fun _ => ?_)
          refine x_imul C dX13_drives_56 ?_
          refine x_iald C at_X13_least rfl dX13_drives_57 (fun _ => ?_)
          refine x_iadd C dX13_drives_58 ?_
          refine x_letI (fun v11 => ?_)
          refine x_istore_n (L' := [(2, _), (0, _), (1, _), (3, _)]) C dX13_drives_59 rfl (by decide) rfl ?_
          refine x_aload_n C 1 dX13_drives_60 rfl rfl ?_
          refine x_aload_n C 2 dX13_drives_61 rfl rfl ?_
          refine x_aload_n C 1 dX13_drives_62 rfl rfl ?_
          refine x_get (v := .ref (xqa (xXE X).2.2 211)) C 48 cls_X13 at_X13 (by decide) wd1550 rfl (xV_r (rt_X13_vanSet  _) rfl) dX13_drives_63 ?_
          refine x_iload_n C 3 dX13_drives_66 rfl rfl ?_
          refine x_iald C at_X13_vanSet rfl dX13_drives_67 (fun _ => ?_)
          refine x_callV C (ct_X13_routes _ _ n k1 (t1.2.2 211 (zI t1.2.1).toNat) t1.2.2 hk1) mt_X13_routes vr_X13_routes wd2137 cls_X13 at_X13 rfl ⟨rfl, rfl, Nat.le_of_ble_eq_true rfl, Nat.le_of_ble_eq_true rfl⟩ rfl (by decide) dX13_drives_68 (kV (fun s12 => ?_))
          refine x_aload_n C 1 dX13_drives_71 rfl rfl ?_
          refine x_iload_n C 3 dX13_drives_72 rfl rfl ?_
          refine x_callV C (ct_X13_leaves _ _ n t1.2.1 s12) mt_X13_leaves vr_X13_leaves wd2173 cls_X13 at_X13 rfl ⟨rfl, rfl, Nat.le_of_ble_eq_true rfl, Nat.le_of_ble_eq_true rfl⟩ rfl (by decide) dX13_drives_73 (kI (fun v13 => ?_))
          refine x_istore (L' := [(4, _), (2, _), (0, _), (1, _), (3, _)]) C dX13_drives_76 (by decide) rfl ?_
          refine x_iconst C (0) dX13_drives_78 rfl ?_
          refine x_istore (L' := [(5, _), (4, _), (2, _), (0, _), (1, _), (3, _)]) C dX13_drives_79 (by decide) rfl ?_
          refine x_iconst C (0) dX13_drives_81 rfl ?_
          refine x_istore (L' := [(6, _), (5, _), (4, _), (2, _), (0, _), (1, _), (3, _)]) C dX13_drives_82 (by decide) rfl ?_
          refine x_pick [4, 5, 3, 6, 2, 1, 0] rfl ?_
          refine x_loop (fun t14 : Int × Int × Int × xS => t14.2.2.2) (fun t14 : Int × Int × Int × xS => [(0, .ref (xqa (xXE X).2.2 184)), (1, .ref (xqa (xXE X).2.2 k1)), (2, iV v11), (3, iV t1.2.1), (4, iV t14.1), (5, iV t14.2.1), (6, iV t14.2.2.1)]) (fun rec15 hr16 t14 => ?_) n (v13, 0, 0, s12)
          refine x_iload C 6 dX13_drives_84 rfl ?_
          refine x_aload_n C 0 dX13_drives_86 rfl rfl ?_
          refine x_get (v := iV (t14.2.2.2 184 42)) C 42 cls_X13 at_X13 (by decide) wd1544 rfl rfl dX13_drives_87 ?_
          refine x_icmp_ge C 149 rfl rfl dX13_drives_90 rfl (fun c17 => x_op c17 ?_) (fun c17 => x_on c17 ?_)
          · refine x_inc C 3 (f := _) dX13_drives_149 rfl (by decide) (1) rfl (fun v18 => ?_)
            refine x_reL (L' := [(3, _), (0, _), (1, _), (2, _), (4, _), (5, _), (6, _)]) rfl ?_
            refine x_goto C 4 dX13_drives_152 rfl ?_
            refine x_pick [1, 2, 3, 0] rfl ?_
            exact hr3 (v11, v18, t14.2.2.2)
          · refine x_iload C 4 dX13_drives_93 rfl ?_
            refine x_aload_n C 0 dX13_drives_95 rfl rfl ?_
            refine x_get (v := .ref (xqa (xXE X).2.2 205)) C 39 cls_X13 at_X13 (by decide) wd1541 rfl (xV_r (rt_X13_way  _) rfl) dX13_drives_96 ?_
            refine x_bipush C (8) dX13_drives_99 rfl ?_
            refine x_iload C 5 dX13_drives_101 rfl ?_
            refine x_imul C dX13_drives_103 ?_
            refine x_aload_n C 0 dX13_drives_104 rfl rfl ?_
            refine x_get (v := .ref (xqa (xXE X).2.2 207)) C 41 cls_X13 at_X13 (by decide) wd1543 rfl (xV_r (rt_X13_stops  _) rfl) dX13_drives_105 ?_
            refine x_iload C 6 dX13_drives_108 rfl ?_
            refine x_iald C at_X13_stops rfl dX13_drives_110 (fun _ => ?_)
            refine x_iadd C dX13_drives_111 ?_
            refine x_iconst C (1) dX13_drives_112 rfl ?_
            refine x_iadd C dX13_drives_113 ?_
            refine x_iald C at_X13_way rfl dX13_drives_114 (fun _ => ?_)
            refine x_iadd C dX13_drives_115 ?_
            refine x_letI (fun v19 => ?_)
            refine x_istore (L' := [(4, _), (0, _), (1, _), (2, _), (3, _), (5, _), (6, _)]) C dX13_drives_116 (by decide) rfl ?_
            refine x_aload_n C 1 dX13_drives_118 rfl rfl ?_
            refine x_get (v := .ref (xqa (xXE X).2.2 213)) C 51 cls_X13 at_X13 (by decide) wd1553 rfl (xV_r (rt_X13_arrives  _) rfl) dX13_drives_119 ?_
            refine x_aload_n C 1 dX13_drives_122 rfl rfl ?_
            refine x_get (v := .ref (xqa (xXE X).2.2 207)) C 41 cls_X13 at_X13 (by decide) wd1543 rfl (xV_r (rt_X13_stops  _) rfl) dX13_drives_123 ?_
            refine x_iload C 6 dX13_drives_126 rfl ?_
            refine x_iald C at_X13_stops rfl dX13_drives_128 (fun _ => ?_)
            refine x_iload C 0 dX13_drives_129 rfl ?_
            refine x_iast C at_X13_arrives rfl dX13_drives_131 (fun _ => ?_)
            refine x_letS (fun s20 => ?_)
            refine x_aload_n C 1 dX13_drives_132 rfl rfl ?_
            refine x_get (v := .ref (xqa (xXE X).2.2 207)) C 41 cls_X13 at_X13 (by decide) wd1543 rfl (xV_r (rt_X13_stops  _) rfl) dX13_drives_133 ?_
            refine x_iload C 6 dX13_drives_136 rfl ?_
            refine x_iald C at_X13_stops rfl dX13_drives_138 (fun _ => ?_)
            refine x_iconst C (1) dX13_drives_139 rfl ?_
            refine x_iadd C dX13_drives_140 ?_
            refine x_letI (fun v21 => ?_)
            refine x_istore (L' := [(5, _), (4, _), (0, _), (1, _), (2, _), (3, _), (6, _)]) C dX13_drives_141 (by decide) rfl ?_
            refine x_inc C 6 (f := _) dX13_drives_143 rfl (by decide) (1) rfl (fun v22 => ?_)
            refine x_reL (L' := [(6, _), (5, _), (4, _), (0, _), (1, _), (2, _), (3, _)]) rfl ?_
            refine x_goto C 84 dX13_drives_146 rfl ?_
            refine x_pick [3, 4, 5, 6, 2, 1, 0] rfl ?_
            exact hr16 (v19, v21, v22, s20)
        · refine x_pick [] rfl ?_
          exact hJ7 ()
theorem ct_X13_drives (l : Launch) (E : xE) (n : Nat) (k1 : Nat) (σ : xS) (hk1 : xAt WW k1 0 289)  : xMet l E yX13_drives cX13_drives 7 (some .int) { frames := 3, cells := 0, slots := 0, locals := 67 } [.ref (xqa E.2.2 184), .ref (xqa E.2.2 k1)] WW WW σ (xrS (m_X13_drives n k1 σ)) := by
  refine xMet.of0 (by decide) (Nat.le_of_ble_eq_true rfl) rfl rfl (fun X hE C => ?_)
  subst hE
  exact xMap (fun q => (some (iV q.1), q.2)) (wk_X13_drives C (fun _ _ => rfl) hk1)
theorem mt_X13_drives : xMth yX13_drives cX13_drives 7 (some .int) 1 := ⟨wd2164, wd164, ⟨by decide, by decide, rfl⟩⟩
theorem vr_X13_drives : xVir yX13_drives := ⟨wd2163, wd136⟩
def m_X13_firstAssignment (n : Nat) (k1 : Nat) (σ : xS) : Option xS :=
  loopF (fun rec2 (t1 : Int × xS) => if 3 ≤ (zI t1.1) then loopF (fun rec6 (t5 : Int × xS) => if 7 ≤ (zI t5.1) then some t5.2 else xlet (if (m_X13_has (t5.2 184 46) t5.1) = 0 then (-1) else 0) fun v9 => xck (zI t5.1) 7 <| xlet (xput t5.2 212 (zI t5.1).toNat v9) fun s10 => xj (fun (q13 : xS) => xlet (t5.1 + 1) fun v14 => rec6 (v14, q13)) fun J11 => if (m_X13_has (s10 184 46) t5.1) = 0 then J11 s10 else xck 0 3 <| xck 0 3 <| xlet (xput s10 211 (0 : Int).toNat (zor (s10 211 (0 : Int).toNat) (zshl 1 t5.1))) fun s16 => J11 s16) n (0, t1.2) else xck (zI t1.1) 3 <| xlet (xput t1.2 211 (zI t1.1).toNat 0) fun s19 => xlet (t1.1 + 1) fun v20 => rec2 (v20, s19)) n (0, σ)
set_option maxHeartbeats 4000000 in
set_option maxRecDepth 100000 in
theorem wk_X13_firstAssignment {X : xX} {Qf : xS → State → Prop} {n : Nat} {k1 : Nat} {σ : xS} (C : xCx X cX13_firstAssignment "BakeryNightModel" none { frames := 1, cells := 0, slots := 0, locals := 22 } 3) (hQ : ∀ τ, Qf τ = xQf X WW (none, τ)) (hk1 : xAt WW k1 0 289) : WO X Qf WW σ 0 [(0, .ref (xqa (xXE X).2.2 184)), (1, .ref (xqa (xXE X).2.2 k1))] [] (m_X13_firstAssignment n k1 σ) := by
  unfold m_X13_firstAssignment
  refine x_iconst C (0) dX13_firstAssignment_0 rfl ?_
  refine x_istore_n (L' := [(2, _), (0, _), (1, _)]) C dX13_firstAssignment_1 rfl (by decide) rfl ?_
  refine x_pick [1, 0] rfl ?_
  refine x_loop (fun t1 : Int × xS => t1.2) (fun t1 : Int × xS => [(0, .ref (xqa (xXE X).2.2 184)), (2, iV t1.1)]) (fun rec2 hr3 t1 => ?_) n (0, σ)
  refine x_iload_n C 1 dX13_firstAssignment_2 rfl rfl ?_
  refine x_iconst C (3) dX13_firstAssignment_3 rfl ?_
  refine x_icmp_ge C 20 rfl (zIl _ rfl) dX13_firstAssignment_4 rfl (fun c4 => x_op c4 ?_) (fun c4 => x_on c4 ?_)
  · refine x_iconst C (0) dX13_firstAssignment_20 rfl ?_
    refine x_istore_n (L' := [(2, _), (0, _)]) C dX13_firstAssignment_21 rfl (by decide) rfl ?_
    refine x_pick [1, 0] rfl ?_
    refine x_loop (fun t5 : Int × xS => t5.2) (fun t5 : Int × xS => [(0, .ref (xqa (xXE X).2.2 184)), (2, iV t5.1)]) (fun rec6 hr7 t5 => ?_) n (0, t1.2)
    refine x_iload_n C 1 dX13_firstAssignment_22 rfl rfl ?_
    refine x_bipush C (7) dX13_firstAssignment_23 rfl ?_
    refine x_icmp_ge C 81 rfl (zIl _ rfl) dX13_firstAssignment_25 rfl (fun c8 => x_op c8 ?_) (fun c8 => x_on c8 ?_)
    · exact x_vretQ C (hQ _) rfl dX13_firstAssignment_81
    · refine x_aload_n C 0 dX13_firstAssignment_28 rfl rfl ?_
      refine x_get (v := .ref (xqa (xXE X).2.2 212)) C 49 cls_X13 at_X13 (by decide) wd1551 rfl (xV_r (rt_X13_vanOf  _) rfl) dX13_firstAssignment_29 ?_
      refine x_iload_n C 1 dX13_firstAssignment_32 rfl rfl ?_
      refine x_aload_n C 0 dX13_firstAssignment_33 rfl rfl ?_
      refine x_aload_n C 0 dX13_firstAssignment_34 rfl rfl ?_
      refine x_get (v := iV (t5.2 184 46)) C 46 cls_X13 at_X13 (by decide) wd1548 rfl rfl dX13_firstAssignment_35 ?_
      refine x_iload_n C 1 dX13_firstAssignment_38 rfl rfl ?_
      refine x_callV C (ct_X13_has _ _ (t5.2 184 46) t5.1 t5.2) mt_X13_has vr_X13_has wd1746 cls_X13 at_X13 rfl ⟨rfl, rfl, Nat.le_of_ble_eq_true rfl, Nat.le_of_ble_eq_true rfl⟩ rfl (Nat.le_of_ble_eq_true rfl) dX13_firstAssignment_39 (kP ?_)
      refine x_tree 50 [iV t5.1, .ref (xqa (xXE X).2.2 212)] (fun v9 => ?_) (fun hJ17 => ?_)
      · refine x_iast C at_X13_vanOf rfl dX13_firstAssignment_50 (fun _ => ?_)
        refine x_letS (fun s10 => ?_)
        refine x_aload_n C 0 dX13_firstAssignment_51 rfl rfl ?_
        refine x_aload_n C 0 dX13_firstAssignment_52 rfl rfl ?_
        refine x_get (v := iV (s10 184 46)) C 46 cls_X13 at_X13 (by decide) wd1548 rfl rfl dX13_firstAssignment_53 ?_
        refine x_iload_n C 1 dX13_firstAssignment_56 rfl rfl ?_
        refine x_callV C (ct_X13_has _ _ (s10 184 46) t5.1 s10) mt_X13_has vr_X13_has wd1746 cls_X13 at_X13 rfl ⟨rfl, rfl, Nat.le_of_ble_eq_true rfl, Nat.le_of_ble_eq_true rfl⟩ rfl (by decide) dX13_firstAssignment_57 (kP ?_)
        refine x_join (fun J => ∀ q13 : xS, WO X Qf WW q13 75 [(0, .ref (xqa (xXE X).2.2 184)), (2, iV t5.1)] [] (J q13)) ?_ ?_
        · intro q13
          refine x_inc C 1 (f := _) dX13_firstAssignment_75 rfl (by decide) (1) rfl (fun v14 => ?_)
          refine x_reL (L' := [(2, _), (0, _)]) rfl ?_
          refine x_goto C 22 dX13_firstAssignment_78 rfl ?_
          refine x_pick [1, 0] rfl ?_
          exact hr7 (v14, q13)
        · intro J11 hJ12
          refine x_if_eq C 75 (zI_bo (bo_X13_has _ _)) dX13_firstAssignment_60 rfl (fun c15 => x_op c15 ?_) (fun c15 => x_on c15 ?_)
          · refine x_pick [0, 1] rfl ?_
            exact hJ12 s10
          · refine x_aload_n C 0 dX13_firstAssignment_63 rfl rfl ?_
            refine x_get (v := .ref (xqa (xXE X).2.2 211)) C 48 cls_X13 at_X13 (by decide) wd1550 rfl (xV_r (rt_X13_vanSet  _) rfl) dX13_firstAssignment_64 ?_
            refine x_iconst C (0) dX13_firstAssignment_67 rfl ?_
            refine x_dup2 C dX13_firstAssignment_68 rfl rfl ?_
            refine x_iald C at_X13_vanSet (zIl _ rfl) dX13_firstAssignment_69 (fun _ => ?_)
            refine x_iconst C (1) dX13_firstAssignment_70 rfl ?_
            refine x_iload_n C 1 dX13_firstAssignment_71 rfl rfl ?_
            refine x_ishl C dX13_firstAssignment_72 ?_
            refine x_ior C dX13_firstAssignment_73 ?_
            refine x_iast C at_X13_vanSet (zIl _ rfl) dX13_firstAssignment_74 (fun _ => ?_)
            refine x_letS (fun s16 => ?_)
            refine x_pick [0, 1] rfl ?_
            exact hJ12 s16
      · refine x_if_eq C 49 (zI_bo (bo_X13_has _ _)) dX13_firstAssignment_42 rfl (fun c18 => ?_) (fun c18 => ?_)
        · refine x_iconst C (-1) dX13_firstAssignment_49 rfl ?_
          exact hJ17 _ (by rw [if_pos c18])
        · refine x_iconst C (0) dX13_firstAssignment_45 rfl ?_
          refine x_goto C 50 dX13_firstAssignment_46 rfl ?_
          exact hJ17 _ (by rw [if_neg c18])
  · refine x_aload_n C 0 dX13_firstAssignment_7 rfl rfl ?_
    refine x_get (v := .ref (xqa (xXE X).2.2 211)) C 48 cls_X13 at_X13 (by decide) wd1550 rfl (xV_r (rt_X13_vanSet  _) rfl) dX13_firstAssignment_8 ?_
    refine x_iload_n C 1 dX13_firstAssignment_11 rfl rfl ?_
    refine x_iconst C (0) dX13_firstAssignment_12 rfl ?_
    refine x_iast C at_X13_vanSet rfl dX13_firstAssignment_13 (fun _ => ?_)
    refine x_letS (fun s19 => ?_)
    refine x_inc C 1 (f := _) dX13_firstAssignment_14 rfl (by decide) (1) rfl (fun v20 => ?_)
    refine x_reL (L' := [(2, _), (0, _)]) rfl ?_
    refine x_goto C 2 dX13_firstAssignment_17 rfl ?_
    refine x_pick [1, 0] rfl ?_
    exact hr3 (v20, s19)
theorem ct_X13_firstAssignment (l : Launch) (E : xE) (n : Nat) (k1 : Nat) (σ : xS) (hk1 : xAt WW k1 0 289)  : xMet l E yX13_firstAssignment cX13_firstAssignment 3 none { frames := 1, cells := 0, slots := 0, locals := 22 } [.ref (xqa E.2.2 184), .ref (xqa E.2.2 k1)] WW WW σ (xrV (m_X13_firstAssignment n k1 σ)) := by
  refine xMet.of0 (by decide) (Nat.le_of_ble_eq_true rfl) rfl rfl (fun X hE C => ?_)
  subst hE
  exact xMap (fun q => (none, q)) (wk_X13_firstAssignment C (fun _ => rfl) hk1)
theorem mt_X13_firstAssignment : xMth yX13_firstAssignment cX13_firstAssignment 3 none 1 := ⟨wd2160, wd164, ⟨by decide, by decide, rfl⟩⟩
theorem vr_X13_firstAssignment : xVir yX13_firstAssignment := ⟨wd2159, wd135⟩
def m_X13_nextAssignment (n : Nat) (k1 : Nat) (σ : xS) : Option (Int × xS) :=
  loopF (fun rec2 (t1 : Int × xS) => if (zI t1.1) < 0 then some (0, t1.2) else xj (fun (q7 : xS) => xlet (t1.1 + (-1)) fun v8 => rec2 (v8, q7)) fun J5 => if (m_X13_has (t1.2 184 46) t1.1) = 0 then J5 t1.2 else xck (zI t1.1) 7 <| xck (zI (t1.2 212 (zI t1.1).toNat)) 3 <| xck (zI (t1.2 212 (zI t1.1).toNat)) 3 <| xlet (xput t1.2 211 (zI (t1.2 212 (zI t1.1).toNat)).toNat (zxor (t1.2 211 (zI (t1.2 212 (zI t1.1).toNat)).toNat) (zshl 1 t1.1))) fun s10 => xck (zI t1.1) 7 <| xck 8 289 <| xj (fun (q13 : Int) => xck (zI t1.1) 7 <| xlet (xput s10 212 (zI t1.1).toNat q13) fun s14 => xck (zI t1.1) 7 <| xck (zI (s14 212 (zI t1.1).toNat)) 3 <| xck (zI (s14 212 (zI t1.1).toNat)) 3 <| xlet (xput s14 211 (zI (s14 212 (zI t1.1).toNat)).toNat (zor (s14 211 (zI (s14 212 (zI t1.1).toNat)).toNat) (zshl 1 t1.1))) fun s15 => xck (zI t1.1) 7 <| if (zI (s15 212 (zI t1.1).toNat)) ≤ 0 then J5 s15 else some (1, s15)) fun J11 => if (zI ((s10 212 (zI t1.1).toNat) + 1)) = (zI (s10 k1 (8 : Int).toNat)) then J11 0 else xck (zI t1.1) 7 <| J11 ((s10 212 (zI t1.1).toNat) + 1)) n (6, σ)
set_option maxHeartbeats 4000000 in
set_option maxRecDepth 100000 in
theorem wk_X13_nextAssignment {X : xX} {Qf : (Int × xS) → State → Prop} {n : Nat} {k1 : Nat} {σ : xS} (C : xCx X cX13_nextAssignment "BakeryNightModel" (some .boolean) { frames := 1, cells := 0, slots := 0, locals := 22 } 3) (hQ : ∀ v τ, Qf (v, τ) = xQf X WW (some (iV v), τ)) (hk1 : xAt WW k1 0 289) : WO X Qf WW σ 0 [(0, .ref (xqa (xXE X).2.2 184)), (1, .ref (xqa (xXE X).2.2 k1))] [] (m_X13_nextAssignment n k1 σ) := by
  unfold m_X13_nextAssignment
  refine x_bipush C (6) dX13_nextAssignment_0 rfl ?_
  refine x_istore_n (L' := [(2, _), (0, _), (1, _)]) C dX13_nextAssignment_2 rfl (by decide) rfl ?_
  refine x_pick [1, 2, 0] rfl ?_
  refine x_loop (fun t1 : Int × xS => t1.2) (fun t1 : Int × xS => [(0, .ref (xqa (xXE X).2.2 184)), (1, .ref (xqa (xXE X).2.2 k1)), (2, iV t1.1)]) (fun rec2 hr3 t1 => ?_) n (6, σ)
  refine x_iload_n C 2 dX13_nextAssignment_3 rfl rfl ?_
  refine x_if_lt C 106 rfl dX13_nextAssignment_4 rfl (fun c4 => x_op c4 ?_) (fun c4 => x_on c4 ?_)
  · refine x_iconst C (0) dX13_nextAssignment_106 rfl ?_
    exact x_zretQ C (hQ _ _) rfl (Or.inl rfl) dX13_nextAssignment_107
  · refine x_aload_n C 0 dX13_nextAssignment_7 rfl rfl ?_
    refine x_aload_n C 0 dX13_nextAssignment_8 rfl rfl ?_
    refine x_get (v := iV (t1.2 184 46)) C 46 cls_X13 at_X13 (by decide) wd1548 rfl rfl dX13_nextAssignment_9 ?_
    refine x_iload_n C 2 dX13_nextAssignment_12 rfl rfl ?_
    refine x_callV C (ct_X13_has _ _ (t1.2 184 46) t1.1 t1.2) mt_X13_has vr_X13_has wd1746 cls_X13 at_X13 rfl ⟨rfl, rfl, Nat.le_of_ble_eq_true rfl, Nat.le_of_ble_eq_true rfl⟩ rfl (by decide) dX13_nextAssignment_13 (kP ?_)
    refine x_join (fun J => ∀ q7 : xS, WO X Qf WW q7 100 [(0, .ref (xqa (xXE X).2.2 184)), (1, .ref (xqa (xXE X).2.2 k1)), (2, iV t1.1)] [] (J q7)) ?_ ?_
    · intro q7
      refine x_inc C 2 (f := _) dX13_nextAssignment_100 rfl (by decide) (-1) rfl (fun v8 => ?_)
      refine x_reL (L' := [(2, _), (0, _), (1, _)]) rfl ?_
      refine x_goto C 3 dX13_nextAssignment_103 rfl ?_
      refine x_pick [1, 2, 0] rfl ?_
      exact hr3 (v8, q7)
    · intro J5 hJ6
      refine x_if_ne C 22 (zI_bo (bo_X13_has _ _)) dX13_nextAssignment_16 rfl (fun c9 => x_on c9 ?_) (fun c9 => x_op c9 ?_)
      · refine x_aload_n C 0 dX13_nextAssignment_22 rfl rfl ?_
        refine x_get (v := .ref (xqa (xXE X).2.2 211)) C 48 cls_X13 at_X13 (by decide) wd1550 rfl (xV_r (rt_X13_vanSet  _) rfl) dX13_nextAssignment_23 ?_
        refine x_aload_n C 0 dX13_nextAssignment_26 rfl rfl ?_
        refine x_get (v := .ref (xqa (xXE X).2.2 212)) C 49 cls_X13 at_X13 (by decide) wd1551 rfl (xV_r (rt_X13_vanOf  _) rfl) dX13_nextAssignment_27 ?_
        refine x_iload_n C 2 dX13_nextAssignment_30 rfl rfl ?_
        refine x_iald C at_X13_vanOf rfl dX13_nextAssignment_31 (fun _ => ?_)
        refine x_dup2 C dX13_nextAssignment_32 rfl rfl ?_
        refine x_iald C at_X13_vanSet rfl dX13_nextAssignment_33 (fun _ => ?_)
        refine x_iconst C (1) dX13_nextAssignment_34 rfl ?_
        refine x_iload_n C 2 dX13_nextAssignment_35 rfl rfl ?_
        refine x_ishl C dX13_nextAssignment_36 ?_
        refine x_ixor C dX13_nextAssignment_37 ?_
        refine x_iast C at_X13_vanSet rfl dX13_nextAssignment_38 (fun _ => ?_)
        refine x_letS (fun s10 => ?_)
        refine x_aload_n C 0 dX13_nextAssignment_39 rfl rfl ?_
        refine x_get (v := .ref (xqa (xXE X).2.2 212)) C 49 cls_X13 at_X13 (by decide) wd1551 rfl (xV_r (rt_X13_vanOf  _) rfl) dX13_nextAssignment_40 ?_
        refine x_iload_n C 2 dX13_nextAssignment_43 rfl rfl ?_
        refine x_aload_n C 0 dX13_nextAssignment_44 rfl rfl ?_
        refine x_get (v := .ref (xqa (xXE X).2.2 212)) C 49 cls_X13 at_X13 (by decide) wd1551 rfl (xV_r (rt_X13_vanOf  _) rfl) dX13_nextAssignment_45 ?_
        refine x_iload_n C 2 dX13_nextAssignment_48 rfl rfl ?_
        refine x_iald C at_X13_vanOf rfl dX13_nextAssignment_49 (fun _ => ?_)
        refine x_iconst C (1) dX13_nextAssignment_50 rfl ?_
        refine x_iadd C dX13_nextAssignment_51 ?_
        refine x_aload_n C 1 dX13_nextAssignment_52 rfl rfl ?_
        refine x_bipush C (8) dX13_nextAssignment_53 rfl ?_
        refine x_iald C hk1 (zIl _ rfl) dX13_nextAssignment_55 (fun _ => ?_)
        refine x_join (fun J => ∀ q13 : Int, WO X Qf WW s10 71 [(0, .ref (xqa (xXE X).2.2 184)), (1, .ref (xqa (xXE X).2.2 k1)), (2, iV t1.1)] [iV q13, iV t1.1, .ref (xqa (xXE X).2.2 212)] (J q13)) ?_ ?_
        · intro q13
          refine x_iast C at_X13_vanOf rfl dX13_nextAssignment_71 (fun _ => ?_)
          refine x_letS (fun s14 => ?_)
          refine x_aload_n C 0 dX13_nextAssignment_72 rfl rfl ?_
          refine x_get (v := .ref (xqa (xXE X).2.2 211)) C 48 cls_X13 at_X13 (by decide) wd1550 rfl (xV_r (rt_X13_vanSet  _) rfl) dX13_nextAssignment_73 ?_
          refine x_aload_n C 0 dX13_nextAssignment_76 rfl rfl ?_
          refine x_get (v := .ref (xqa (xXE X).2.2 212)) C 49 cls_X13 at_X13 (by decide) wd1551 rfl (xV_r (rt_X13_vanOf  _) rfl) dX13_nextAssignment_77 ?_
          refine x_iload_n C 2 dX13_nextAssignment_80 rfl rfl ?_
          refine x_iald C at_X13_vanOf rfl dX13_nextAssignment_81 (fun _ => ?_)
          refine x_dup2 C dX13_nextAssignment_82 rfl rfl ?_
          refine x_iald C at_X13_vanSet rfl dX13_nextAssignment_83 (fun _ => ?_)
          refine x_iconst C (1) dX13_nextAssignment_84 rfl ?_
          refine x_iload_n C 2 dX13_nextAssignment_85 rfl rfl ?_
          refine x_ishl C dX13_nextAssignment_86 ?_
          refine x_ior C dX13_nextAssignment_87 ?_
          refine x_iast C at_X13_vanSet rfl dX13_nextAssignment_88 (fun _ => ?_)
          refine x_letS (fun s15 => ?_)
          refine x_aload_n C 0 dX13_nextAssignment_89 rfl rfl ?_
          refine x_get (v := .ref (xqa (xXE X).2.2 212)) C 49 cls_X13 at_X13 (by decide) wd1551 rfl (xV_r (rt_X13_vanOf  _) rfl) dX13_nextAssignment_90 ?_
          refine x_iload_n C 2 dX13_nextAssignment_93 rfl rfl ?_
          refine x_iald C at_X13_vanOf rfl dX13_nextAssignment_94 (fun _ => ?_)
          refine x_if_le C 100 rfl dX13_nextAssignment_95 rfl (fun c16 => x_op c16 ?_) (fun c16 => x_on c16 ?_)
          · refine x_pick [0, 1, 2] rfl ?_
            exact hJ6 s15
          · refine x_iconst C (1) dX13_nextAssignment_98 rfl ?_
            exact x_zretQ C (hQ _ _) rfl (Or.inr rfl) dX13_nextAssignment_99
        · intro J11 hJ12
          refine x_icmp_ne C 63 rfl rfl dX13_nextAssignment_56 rfl (fun c17 => x_on c17 ?_) (fun c17 => x_op c17 ?_)
          · refine x_aload_n C 0 dX13_nextAssignment_63 rfl rfl ?_
            refine x_get (v := .ref (xqa (xXE X).2.2 212)) C 49 cls_X13 at_X13 (by decide) wd1551 rfl (xV_r (rt_X13_vanOf  _) rfl) dX13_nextAssignment_64 ?_
            refine x_iload_n C 2 dX13_nextAssignment_67 rfl rfl ?_
            refine x_iald C at_X13_vanOf rfl dX13_nextAssignment_68 (fun _ => ?_)
            refine x_iconst C (1) dX13_nextAssignment_69 rfl ?_
            refine x_iadd C dX13_nextAssignment_70 ?_
            refine x_pick [0, 1, 2] rfl ?_
            exact hJ12 ((s10 212 (zI t1.1).toNat) + 1)
          · refine x_iconst C (0) dX13_nextAssignment_59 rfl ?_
            refine x_goto C 71 dX13_nextAssignment_60 rfl ?_
            refine x_pick [0, 1, 2] rfl ?_
            exact hJ12 0
      · refine x_goto C 100 dX13_nextAssignment_19 rfl ?_
        refine x_pick [0, 1, 2] rfl ?_
        exact hJ6 t1.2
theorem ct_X13_nextAssignment (l : Launch) (E : xE) (n : Nat) (k1 : Nat) (σ : xS) (hk1 : xAt WW k1 0 289)  : xMet l E yX13_nextAssignment cX13_nextAssignment 3 (some .boolean) { frames := 1, cells := 0, slots := 0, locals := 22 } [.ref (xqa E.2.2 184), .ref (xqa E.2.2 k1)] WW WW σ (xrS (m_X13_nextAssignment n k1 σ)) := by
  refine xMet.of0 (by decide) (Nat.le_of_ble_eq_true rfl) rfl rfl (fun X hE C => ?_)
  subst hE
  exact xMap (fun q => (some (iV q.1), q.2)) (wk_X13_nextAssignment C (fun _ _ => rfl) hk1)
theorem mt_X13_nextAssignment : xMth yX13_nextAssignment cX13_nextAssignment 3 (some .boolean) 1 := ⟨wd2184, wd164, ⟨by decide, by decide, rfl⟩⟩
theorem vr_X13_nextAssignment : xVir yX13_nextAssignment := ⟨wd2183, wd141⟩
def m_X13_lateShops (n : Nat) (p1 : Int) (σ : xS) : Option Int :=
  loopF (fun rec2 (t1 : Int × Int) => if 7 ≤ (zI t1.2) then some t1.1 else xj (fun (q7 : Int) => xlet (t1.1 + q7) fun v8 => xlet (t1.2 + 1) fun v9 => rec2 (v8, v9)) fun J5 => xj (fun (q12 : Unit) => J5 0) fun J10 => if (m_X13_has (σ 184 46) t1.2) = 0 then J10 () else xck (zI t1.2) 7 <| xck (zI t1.2) 7 <| if (zI (p1 + (σ 213 (zI t1.2).toNat))) ≤ (zI (σ 209 (zI t1.2).toNat)) then J10 () else J5 1) n (0, 0)
set_option maxHeartbeats 4000000 in
set_option maxRecDepth 100000 in
theorem wk_X13_lateShops {X : xX} {Qf : Int → State → Prop} {n : Nat} {p1 : Int} {σ : xS} (C : xCx X cX13_lateShops "BakeryNightModel" (some .int) { frames := 1, cells := 0, slots := 0, locals := 22 } 4) (hQ : ∀ v, Qf v = xQf X WW (some (iV v), σ))  : WO X Qf WW σ 0 [(0, .ref (xqa (xXE X).2.2 184)), (1, iV p1)] [] (m_X13_lateShops n p1 σ) := by
  unfold m_X13_lateShops
  refine x_iconst C (0) dX13_lateShops_0 rfl ?_
  refine x_istore_n (L' := [(2, _), (0, _), (1, _)]) C dX13_lateShops_1 rfl (by decide) rfl ?_
  refine x_iconst C (0) dX13_lateShops_2 rfl ?_
  refine x_istore_n (L' := [(3, _), (2, _), (0, _), (1, _)]) C dX13_lateShops_3 rfl (by decide) rfl ?_
  refine x_pick [2, 3, 1, 0] rfl ?_
  refine x_loop (fun t1 : Int × Int => σ) (fun t1 : Int × Int => [(0, .ref (xqa (xXE X).2.2 184)), (1, iV p1), (2, iV t1.1), (3, iV t1.2)]) (fun rec2 hr3 t1 => ?_) n (0, 0)
  refine x_iload_n C 3 dX13_lateShops_4 rfl rfl ?_
  refine x_bipush C (7) dX13_lateShops_5 rfl ?_
  refine x_icmp_ge C 53 rfl (zIl _ rfl) dX13_lateShops_7 rfl (fun c4 => x_op c4 ?_) (fun c4 => x_on c4 ?_)
  · refine x_iload_n C 2 dX13_lateShops_53 rfl rfl ?_
    exact x_iretQ C (hQ _) rfl dX13_lateShops_54
  · refine x_iload_n C 2 dX13_lateShops_10 rfl rfl ?_
    refine x_aload_n C 0 dX13_lateShops_11 rfl rfl ?_
    refine x_aload_n C 0 dX13_lateShops_12 rfl rfl ?_
    refine x_get (v := iV (σ 184 46)) C 46 cls_X13 at_X13 (by decide) wd1548 rfl rfl dX13_lateShops_13 ?_
    refine x_iload_n C 3 dX13_lateShops_16 rfl rfl ?_
    refine x_callV C (ct_X13_has _ _ (σ 184 46) t1.2 σ) mt_X13_has vr_X13_has wd1746 cls_X13 at_X13 rfl ⟨rfl, rfl, Nat.le_of_ble_eq_true rfl, Nat.le_of_ble_eq_true rfl⟩ rfl (Nat.le_of_ble_eq_true rfl) dX13_lateShops_17 (kP ?_)
    refine x_join (fun J => ∀ q7 : Int, WO X Qf WW σ 45 [(0, .ref (xqa (xXE X).2.2 184)), (1, iV p1), (3, iV t1.2)] [iV q7, iV t1.1] (J q7)) ?_ ?_
    · intro q7
      refine x_iadd C dX13_lateShops_45 ?_
      refine x_letI (fun v8 => ?_)
      refine x_istore_n (L' := [(2, _), (0, _), (1, _), (3, _)]) C dX13_lateShops_46 rfl (by decide) rfl ?_
      refine x_inc C 3 (f := _) dX13_lateShops_47 rfl (by decide) (1) rfl (fun v9 => ?_)
      refine x_reL (L' := [(3, _), (2, _), (0, _), (1, _)]) rfl ?_
      refine x_goto C 4 dX13_lateShops_50 rfl ?_
      refine x_pick [2, 3, 1, 0] rfl ?_
      exact hr3 (v8, v9)
    · intro J5 hJ6
      refine x_join (fun J => ∀ q12 : Unit, WO X Qf WW σ 44 [(0, .ref (xqa (xXE X).2.2 184)), (1, iV p1), (3, iV t1.2)] [iV t1.1] (J q12)) ?_ ?_
      · intro q12
        refine x_iconst C (0) dX13_lateShops_44 rfl ?_
        refine x_pick [0, 1, 2] rfl ?_
        exact hJ6 0
      · intro J10 hJ11
        refine x_if_eq C 44 (zI_bo (bo_X13_has _ _)) dX13_lateShops_20 rfl (fun c13 => x_op c13 ?_) (fun c13 => x_on c13 ?_)
        · refine x_pick [0, 1, 3] rfl ?_
          exact hJ11 ()
        · refine x_iload_n C 1 dX13_lateShops_23 rfl rfl ?_
          refine x_aload_n C 0 dX13_lateShops_24 rfl rfl ?_
          refine x_get (v := .ref (xqa (xXE X).2.2 213)) C 51 cls_X13 at_X13 (by decide) wd1553 rfl (xV_r (rt_X13_arrives  _) rfl) dX13_lateShops_25 ?_
          refine x_iload_n C 3 dX13_lateShops_28 rfl rfl ?_
          refine x_iald C at_X13_arrives rfl dX13_lateShops_29 (fun _ => ?_)
          refine x_iadd C dX13_lateShops_30 ?_
          refine x_aload_n C 0 dX13_lateShops_31 rfl rfl ?_
          refine x_get (v := .ref (xqa (xXE X).2.2 209)) C 44 cls_X13 at_X13 (by decide) wd1546 rfl (xV_r (rt_X13_shopDue  _) rfl) dX13_lateShops_32 ?_
          refine x_iload_n C 3 dX13_lateShops_35 rfl rfl ?_
          refine x_iald C at_X13_shopDue rfl dX13_lateShops_36 (fun _ => ?_)
          refine x_icmp_le C 44 rfl rfl dX13_lateShops_37 rfl (fun c14 => x_op c14 ?_) (fun c14 => x_on c14 ?_)
          · refine x_pick [0, 1, 3] rfl ?_
            exact hJ11 ()
          · refine x_iconst C (1) dX13_lateShops_40 rfl ?_
            refine x_goto C 45 dX13_lateShops_41 rfl ?_
            refine x_pick [0, 1, 3] rfl ?_
            exact hJ6 1
theorem ct_X13_lateShops (l : Launch) (E : xE) (n : Nat) (p1 : Int) (σ : xS)   : xMet l E yX13_lateShops cX13_lateShops 4 (some .int) { frames := 1, cells := 0, slots := 0, locals := 22 } [.ref (xqa E.2.2 184), iV p1] WW WW σ (xrI (m_X13_lateShops n p1 σ) σ) := by
  refine xMet.of0 (by decide) (Nat.le_of_ble_eq_true rfl) rfl rfl (fun X hE C => ?_)
  subst hE
  exact xMap (fun v => (some (iV v), σ)) (wk_X13_lateShops C (fun _ => rfl) )
theorem mt_X13_lateShops : xMth yX13_lateShops cX13_lateShops 4 (some .int) 1 := ⟨wd2180, wd164, ⟨by decide, by decide, rfl⟩⟩
theorem vr_X13_lateShops : xVir yX13_lateShops := ⟨wd2179, wd140⟩
def m_X13_plans (n : Nat) (k1 : Nat) (p2 : Int) (σ : xS) : Option (Int × xS) :=
  (m_X13_findsShops n k1 σ).bind fun s1 => (m_X13_findsRoutes n k1 s1).bind fun s2 => xlet (xput s2 184 52 (-1)) fun s3 => (m_X13_firstAssignment n k1 s3).bind fun s4 => xj (fun (q7 : Unit) => loopF (fun rec9 (t8 : Int × xS) => if (zI t8.1) = 0 then xlet (if (zI (t8.2 184 52)) = (-1) then 0 else 1) fun v12 => xbo v12 (some (v12, t8.2)) else xbS (m_X13_drives n k1 t8.2) fun v16 s15 => xj (fun (q20 : Int) => xj (fun (q23 : xS) => xbS (m_X13_nextAssignment n k1 q23) fun v25 s24 => rec9 (v25, s24)) fun J21 => if (zI v16) = (-1) then J21 s15 else xj (fun (q31 : Unit) => xlet (xput s15 184 52 q20) fun s32 => xlet (xput s32 184 53 v16) fun s33 => loopF (fun rec35 (t34 : Int × xS) => if 7 ≤ (zI t34.1) then J21 t34.2 else xck (zI t34.1) 7 <| xck (zI t34.1) 7 <| xlet (xput t34.2 214 (zI t34.1).toNat (t34.2 212 (zI t34.1).toNat)) fun s38 => xlet (t34.1 + 1) fun v39 => rec35 (v39, s38)) n (0, s33)) fun J29 => if (zI (s15 184 52)) = (-1) then J29 () else if (zI q20) < (zI (s15 184 52)) then J29 () else if (zI q20) = (zI (s15 184 52)) then if (zI (s15 184 53)) ≤ (zI v16) then J21 s15 else J29 () else J21 s15) fun J18 => if (zI v16) = (-1) then J18 1000000 else (m_X13_lateShops n p2 s15).bind fun v45 => J18 v45) n (1, s4)) fun J5 => if (zI (s4 184 46)) = 0 then J5 () else xck 8 289 <| if (zI (s4 k1 (8 : Int).toNat)) = 0 then some (0, s4) else J5 ()
set_option maxHeartbeats 4000000 in
set_option maxRecDepth 100000 in
theorem wk_X13_plans {X : xX} {Qf : (Int × xS) → State → Prop} {n : Nat} {k1 : Nat} {p2 : Int} {σ : xS} (C : xCx X cX13_plans "BakeryNightModel" (some .boolean) { frames := 6, cells := 0, slots := 0, locals := 137 } 7) (hQ : ∀ v τ, Qf (v, τ) = xQf X WW (some (iV v), τ)) (hk1 : xAt WW k1 0 289) : WO X Qf WW σ 0 [(0, .ref (xqa (xXE X).2.2 184)), (1, .ref (xqa (xXE X).2.2 k1)), (2, iV p2)] [] (m_X13_plans n k1 p2 σ) := by
  unfold m_X13_plans
  refine x_aload_n C 0 dX13_plans_0 rfl rfl ?_
  refine x_aload_n C 1 dX13_plans_1 rfl rfl ?_
  refine x_callV C (ct_X13_findsShops _ _ n k1 σ hk1) mt_X13_findsShops vr_X13_findsShops wd2153 cls_X13 at_X13 rfl ⟨rfl, rfl, Nat.le_of_ble_eq_true rfl, Nat.le_of_ble_eq_true rfl⟩ rfl (by decide) dX13_plans_2 (kV (fun s1 => ?_))
  refine x_aload_n C 0 dX13_plans_5 rfl rfl ?_
  refine x_aload_n C 1 dX13_plans_6 rfl rfl ?_
  refine x_callV C (ct_X13_findsRoutes _ _ n k1 s1 hk1) mt_X13_findsRoutes vr_X13_findsRoutes wd2128 cls_X13 at_X13 rfl ⟨rfl, rfl, Nat.le_of_ble_eq_true rfl, Nat.le_of_ble_eq_true rfl⟩ rfl (by decide) dX13_plans_7 (kV (fun s2 => ?_))
  refine x_aload_n C 0 dX13_plans_10 rfl rfl ?_
  refine x_iconst C (-1) dX13_plans_11 rfl ?_
  refine x_put C 52 (-1) cls_X13 at_X13 (by decide) wd1554 rfl rfl rfl rfl (xV_pI rfl) dX13_plans_12 ?_
  refine x_letS (fun s3 => ?_)
  refine x_aload_n C 0 dX13_plans_15 rfl rfl ?_
  refine x_aload_n C 1 dX13_plans_16 rfl rfl ?_
  refine x_callV C (ct_X13_firstAssignment _ _ n k1 s3 hk1) mt_X13_firstAssignment vr_X13_firstAssignment wd2157 cls_X13 at_X13 rfl ⟨rfl, rfl, Nat.le_of_ble_eq_true rfl, Nat.le_of_ble_eq_true rfl⟩ rfl (by decide) dX13_plans_17 (kV (fun s4 => ?_))
  refine x_aload_n C 0 dX13_plans_20 rfl rfl ?_
  refine x_get (v := iV (s4 184 46)) C 46 cls_X13 at_X13 (by decide) wd1548 rfl rfl dX13_plans_21 ?_
  refine x_join (fun J => ∀ q7 : Unit, WO X Qf WW s4 36 [(0, .ref (xqa (xXE X).2.2 184)), (1, .ref (xqa (xXE X).2.2 k1)), (2, iV p2)] [] (J q7)) ?_ ?_
  · intro q7
    refine x_iconst C (1) dX13_plans_36 rfl ?_
    refine x_istore_n (L' := [(3, _), (0, _), (1, _), (2, _)]) C dX13_plans_37 rfl (by decide) rfl ?_
    refine x_pick [1, 2, 3, 0] rfl ?_
    refine x_loop (fun t8 : Int × xS => t8.2) (fun t8 : Int × xS => [(0, .ref (xqa (xXE X).2.2 184)), (1, .ref (xqa (xXE X).2.2 k1)), (2, iV p2), (3, iV t8.1)]) (fun rec9 hr10 t8 => ?_) n (1, s4)
    refine x_iload_n C 3 dX13_plans_38 rfl rfl ?_
    refine x_if_eq C 160 rfl dX13_plans_39 rfl (fun c11 => x_op c11 ?_) (fun c11 => x_on c11 ?_)
    · refine x_aload_n C 0 dX13_plans_160 rfl rfl ?_
      refine x_get (v := iV (t8.2 184 52)) C 52 cls_X13 at_X13 (by decide) wd1554 rfl rfl dX13_plans_161 ?_
      refine x_iconst C (-1) dX13_plans_164 rfl ?_
      refine x_tree 173 [] (fun v12 => ?_) (fun hJ13 => ?_)
      · exact x_bo (fun hb => x_zretQ C (hQ _ _) rfl hb dX13_plans_173)
      · refine x_icmp_eq C 172 rfl (zIl _ rfl) dX13_plans_165 rfl (fun c14 => ?_) (fun c14 => ?_)
        · refine x_iconst C (0) dX13_plans_172 rfl ?_
          exact hJ13 _ (by rw [if_pos c14])
        · refine x_iconst C (1) dX13_plans_168 rfl ?_
          refine x_goto C 173 dX13_plans_169 rfl ?_
          exact hJ13 _ (by rw [if_neg c14])
    · refine x_aload_n C 0 dX13_plans_42 rfl rfl ?_
      refine x_aload_n C 1 dX13_plans_43 rfl rfl ?_
      refine x_callV C (ct_X13_drives _ _ n k1 t8.2 hk1) mt_X13_drives vr_X13_drives wd2161 cls_X13 at_X13 rfl ⟨rfl, rfl, Nat.le_of_ble_eq_true rfl, Nat.le_of_ble_eq_true rfl⟩ rfl (by decide) dX13_plans_44 (kS (fun v16 s15 => ?_))
      refine x_istore (L' := [(4, _), (0, _), (1, _), (2, _), (3, _)]) C dX13_plans_47 (by decide) rfl ?_
      refine x_iload C 0 dX13_plans_49 rfl ?_
      refine x_iconst C (-1) dX13_plans_51 rfl ?_
      refine x_join (fun J => ∀ q20 : Int, WO X Qf WW s15 66 [(0, .ref (xqa (xXE X).2.2 184)), (1, .ref (xqa (xXE X).2.2 k1)), (2, iV p2), (4, iV v16)] [iV q20] (J q20)) ?_ ?_
      · intro q20
        refine x_istore (L' := [(5, _), (0, _), (1, _), (2, _), (4, _)]) C dX13_plans_66 (by decide) rfl ?_
        refine x_iload C 4 dX13_plans_68 rfl ?_
        refine x_iconst C (-1) dX13_plans_70 rfl ?_
        refine x_join (fun J => ∀ q23 : xS, WO X Qf WW q23 151 [(0, .ref (xqa (xXE X).2.2 184)), (1, .ref (xqa (xXE X).2.2 k1)), (2, iV p2)] [] (J q23)) ?_ ?_
        · intro q23
          refine x_aload_n C 0 dX13_plans_151 rfl rfl ?_
          refine x_aload_n C 1 dX13_plans_152 rfl rfl ?_
          refine x_callV C (ct_X13_nextAssignment _ _ n k1 q23 hk1) mt_X13_nextAssignment vr_X13_nextAssignment wd2181 cls_X13 at_X13 rfl ⟨rfl, rfl, Nat.le_of_ble_eq_true rfl, Nat.le_of_ble_eq_true rfl⟩ rfl (by decide) dX13_plans_153 (kS (fun v25 s24 => ?_))
          refine x_istore_n (L' := [(3, _), (0, _), (1, _), (2, _)]) C dX13_plans_156 rfl (by decide) rfl ?_
          refine x_goto C 38 dX13_plans_157 rfl ?_
          refine x_pick [1, 2, 3, 0] rfl ?_
          exact hr10 (v25, s24)
        · intro J21 hJ22
          refine x_icmp_eq C 151 rfl (zIl _ rfl) dX13_plans_71 rfl (fun c26 => x_op c26 ?_) (fun c26 => x_on c26 ?_)
          · refine x_pick [1, 2, 3] rfl ?_
            exact hJ22 s15
          · refine x_aload_n C 1 dX13_plans_74 rfl rfl ?_
            refine x_get (v := iV (s15 184 52)) C 52 cls_X13 at_X13 (by decide) wd1554 rfl rfl dX13_plans_75 ?_
            refine x_iconst C (-1) dX13_plans_78 rfl ?_
            refine x_join (fun J => ∀ q31 : Unit, WO X Qf WW s15 109 [(0, .ref (xqa (xXE X).2.2 184)), (1, .ref (xqa (xXE X).2.2 k1)), (2, iV p2), (4, iV v16), (5, iV q20)] [] (J q31)) ?_ ?_
            · intro q31
              refine x_aload_n C 0 dX13_plans_109 rfl rfl ?_
              refine x_iload C 4 dX13_plans_110 rfl ?_
              refine x_put C 52 q20 cls_X13 at_X13 (by decide) wd1554 rfl rfl rfl rfl (xV_pI rfl) dX13_plans_112 ?_
              refine x_letS (fun s32 => ?_)
              refine x_aload_n C 0 dX13_plans_115 rfl rfl ?_
              refine x_iload C 3 dX13_plans_116 rfl ?_
              refine x_put C 53 v16 cls_X13 at_X13 (by decide) wd1555 rfl rfl rfl rfl (xV_pI rfl) dX13_plans_118 ?_
              refine x_letS (fun s33 => ?_)
              refine x_iconst C (0) dX13_plans_121 rfl ?_
              refine x_istore (L' := [(6, _), (0, _), (1, _), (2, _), (4, _), (5, _)]) C dX13_plans_122 (by decide) rfl ?_
              refine x_pick [1, 2, 3, 0] rfl ?_
              refine x_loop (fun t34 : Int × xS => t34.2) (fun t34 : Int × xS => [(0, .ref (xqa (xXE X).2.2 184)), (1, .ref (xqa (xXE X).2.2 k1)), (2, iV p2), (6, iV t34.1)]) (fun rec35 hr36 t34 => ?_) n (0, s33)
              refine x_iload C 3 dX13_plans_124 rfl ?_
              refine x_bipush C (7) dX13_plans_126 rfl ?_
              refine x_icmp_ge C 151 rfl (zIl _ rfl) dX13_plans_128 rfl (fun c37 => x_op c37 ?_) (fun c37 => x_on c37 ?_)
              · refine x_pick [0, 1, 2] rfl ?_
                exact hJ22 t34.2
              · refine x_aload_n C 0 dX13_plans_131 rfl rfl ?_
                refine x_get (v := .ref (xqa (xXE X).2.2 214)) C 54 cls_X13 at_X13 (by decide) wd1556 rfl (xV_r (rt_X13_bestVan  _) rfl) dX13_plans_132 ?_
                refine x_iload C 3 dX13_plans_135 rfl ?_
                refine x_aload_n C 0 dX13_plans_137 rfl rfl ?_
                refine x_get (v := .ref (xqa (xXE X).2.2 212)) C 49 cls_X13 at_X13 (by decide) wd1551 rfl (xV_r (rt_X13_vanOf  _) rfl) dX13_plans_138 ?_
                refine x_iload C 3 dX13_plans_141 rfl ?_
                refine x_iald C at_X13_vanOf rfl dX13_plans_143 (fun _ => ?_)
                refine x_iast C at_X13_bestVan rfl dX13_plans_144 (fun _ => ?_)
                refine x_letS (fun s38 => ?_)
                refine x_inc C 3 (f := _) dX13_plans_145 rfl (by decide) (1) rfl (fun v39 => ?_)
                refine x_reL (L' := [(6, _), (0, _), (1, _), (2, _)]) rfl ?_
                refine x_goto C 124 dX13_plans_148 rfl ?_
                refine x_pick [1, 2, 3, 0] rfl ?_
                exact hr36 (v39, s38)
            · intro J29 hJ30
              refine x_icmp_eq C 109 rfl (zIl _ rfl) dX13_plans_79 rfl (fun c40 => x_op c40 ?_) (fun c40 => x_on c40 ?_)
              · refine x_pick [1, 2, 3, 4, 0] rfl ?_
                exact hJ30 ()
              · refine x_iload C 0 dX13_plans_82 rfl ?_
                refine x_aload_n C 1 dX13_plans_84 rfl rfl ?_
                refine x_get (v := iV (s15 184 52)) C 52 cls_X13 at_X13 (by decide) wd1554 rfl rfl dX13_plans_85 ?_
                refine x_icmp_lt C 109 rfl rfl dX13_plans_88 rfl (fun c41 => x_op c41 ?_) (fun c41 => x_on c41 ?_)
                · refine x_pick [1, 2, 3, 4, 0] rfl ?_
                  exact hJ30 ()
                · refine x_iload C 0 dX13_plans_91 rfl ?_
                  refine x_aload_n C 1 dX13_plans_93 rfl rfl ?_
                  refine x_get (v := iV (s15 184 52)) C 52 cls_X13 at_X13 (by decide) wd1554 rfl rfl dX13_plans_94 ?_
                  refine x_icmp_ne C 151 rfl rfl dX13_plans_97 rfl (fun c42 => x_on c42 ?_) (fun c42 => x_op c42 ?_)
                  · refine x_pick [1, 2, 3] rfl ?_
                    exact hJ22 s15
                  · refine x_iload C 4 dX13_plans_100 rfl ?_
                    refine x_aload_n C 1 dX13_plans_102 rfl rfl ?_
                    refine x_get (v := iV (s15 184 53)) C 53 cls_X13 at_X13 (by decide) wd1555 rfl rfl dX13_plans_103 ?_
                    refine x_icmp_ge C 151 rfl rfl dX13_plans_106 rfl (fun c43 => x_op c43 ?_) (fun c43 => x_on c43 ?_)
                    · refine x_pick [1, 2, 3] rfl ?_
                      exact hJ22 s15
                    · refine x_pick [1, 2, 3, 4, 0] rfl ?_
                      exact hJ30 ()
      · intro J18 hJ19
        refine x_icmp_ne C 61 rfl (zIl _ rfl) dX13_plans_52 rfl (fun c44 => x_on c44 ?_) (fun c44 => x_op c44 ?_)
        · refine x_aload_n C 1 dX13_plans_61 rfl rfl ?_
          refine x_iload_n C 3 dX13_plans_62 rfl rfl ?_
          refine x_callV C (ct_X13_lateShops _ _ n p2 s15) mt_X13_lateShops vr_X13_lateShops wd2177 cls_X13 at_X13 rfl ⟨rfl, rfl, Nat.le_of_ble_eq_true rfl, Nat.le_of_ble_eq_true rfl⟩ rfl (by decide) dX13_plans_63 (kI (fun v45 => ?_))
          refine x_pick [1, 2, 3, 0] rfl ?_
          exact hJ19 v45
        · refine x_ldcw C (1000000) wd1932 rfl dX13_plans_55 ?_
          refine x_goto C 66 dX13_plans_58 rfl ?_
          refine x_pick [1, 2, 3, 0] rfl ?_
          exact hJ19 1000000
  · intro J5 hJ6
    refine x_if_eq C 36 rfl dX13_plans_24 rfl (fun c46 => x_op c46 ?_) (fun c46 => x_on c46 ?_)
    · refine x_pick [0, 1, 2] rfl ?_
      exact hJ6 ()
    · refine x_aload_n C 1 dX13_plans_27 rfl rfl ?_
      refine x_bipush C (8) dX13_plans_28 rfl ?_
      refine x_iald C hk1 (zIl _ rfl) dX13_plans_30 (fun _ => ?_)
      refine x_if_ne C 36 rfl dX13_plans_31 rfl (fun c47 => x_on c47 ?_) (fun c47 => x_op c47 ?_)
      · refine x_pick [0, 1, 2] rfl ?_
        exact hJ6 ()
      · refine x_iconst C (0) dX13_plans_34 rfl ?_
        exact x_zretQ C (hQ _ _) rfl (Or.inl rfl) dX13_plans_35
theorem ct_X13_plans (l : Launch) (E : xE) (n : Nat) (k1 : Nat) (p2 : Int) (σ : xS) (hk1 : xAt WW k1 0 289)  : xMet l E yX13_plans cX13_plans 7 (some .boolean) { frames := 6, cells := 0, slots := 0, locals := 137 } [.ref (xqa E.2.2 184), .ref (xqa E.2.2 k1), iV p2] WW WW σ (xrS (m_X13_plans n k1 p2 σ)) := by
  refine xMet.of0 (by decide) (Nat.le_of_ble_eq_true rfl) rfl rfl (fun X hE C => ?_)
  subst hE
  exact xMap (fun q => (some (iV q.1), q.2)) (wk_X13_plans C (fun _ _ => rfl) hk1)
theorem mt_X13_plans : xMth yX13_plans cX13_plans 7 (some .boolean) 2 := ⟨wd2152, wd164, ⟨by decide, by decide, rfl⟩⟩
theorem vr_X13_plans : xVir yX13_plans := ⟨wd2151, wd133⟩
def m_X13_takesBest (n : Nat) (σ : xS) : Option xS :=
  loopF (fun rec2 (t1 : Int × xS) => if 3 ≤ (zI t1.1) then loopF (fun rec6 (t5 : Int × xS) => if 7 ≤ (zI t5.1) then xbS (m_X13_drives n 185 t5.2) fun v10 s9 => some s9 else xck (zI t5.1) 7 <| xj (fun (q13 : xS) => xlet (t5.1 + 1) fun v14 => rec6 (v14, q13)) fun J11 => if (zI (t5.2 214 (zI t5.1).toNat)) = (-1) then J11 t5.2 else xck (zI t5.1) 7 <| xck (zI (t5.2 214 (zI t5.1).toNat)) 3 <| xck (zI (t5.2 214 (zI t5.1).toNat)) 3 <| xlet (xput t5.2 211 (zI (t5.2 214 (zI t5.1).toNat)).toNat (zor (t5.2 211 (zI (t5.2 214 (zI t5.1).toNat)).toNat) (zshl 1 t5.1))) fun s16 => J11 s16) n (0, t1.2) else xck (zI t1.1) 3 <| xlet (xput t1.2 211 (zI t1.1).toNat 0) fun s17 => xlet (t1.1 + 1) fun v18 => rec2 (v18, s17)) n (0, σ)
set_option maxHeartbeats 4000000 in
set_option maxRecDepth 100000 in
theorem wk_X13_takesBest {X : xX} {Qf : xS → State → Prop} {n : Nat} {σ : xS} (C : xCx X cX13_takesBest "BakeryNightModel" none { frames := 4, cells := 0, slots := 0, locals := 93 } 2) (hQ : ∀ τ, Qf τ = xQf X WW (none, τ))  : WO X Qf WW σ 0 [(0, .ref (xqa (xXE X).2.2 184))] [] (m_X13_takesBest n σ) := by
  unfold m_X13_takesBest
  refine x_iconst C (0) dX13_takesBest_0 rfl ?_
  refine x_istore_n (L' := [(1, _), (0, _)]) C dX13_takesBest_1 rfl (by decide) rfl ?_
  refine x_pick [1, 0] rfl ?_
  refine x_loop (fun t1 : Int × xS => t1.2) (fun t1 : Int × xS => [(0, .ref (xqa (xXE X).2.2 184)), (1, iV t1.1)]) (fun rec2 hr3 t1 => ?_) n (0, σ)
  refine x_iload_n C 1 dX13_takesBest_2 rfl rfl ?_
  refine x_iconst C (3) dX13_takesBest_3 rfl ?_
  refine x_icmp_ge C 20 rfl (zIl _ rfl) dX13_takesBest_4 rfl (fun c4 => x_op c4 ?_) (fun c4 => x_on c4 ?_)
  · refine x_iconst C (0) dX13_takesBest_20 rfl ?_
    refine x_istore_n (L' := [(1, _), (0, _)]) C dX13_takesBest_21 rfl (by decide) rfl ?_
    refine x_pick [1, 0] rfl ?_
    refine x_loop (fun t5 : Int × xS => t5.2) (fun t5 : Int × xS => [(0, .ref (xqa (xXE X).2.2 184)), (1, iV t5.1)]) (fun rec6 hr7 t5 => ?_) n (0, t1.2)
    refine x_iload_n C 1 dX13_takesBest_22 rfl rfl ?_
    refine x_bipush C (7) dX13_takesBest_23 rfl ?_
    refine x_icmp_ge C 61 rfl (zIl _ rfl) dX13_takesBest_25 rfl (fun c8 => x_op c8 ?_) (fun c8 => x_on c8 ?_)
    · refine x_aload_n C 0 dX13_takesBest_61 rfl rfl ?_
      refine x_aload_n C 0 dX13_takesBest_62 rfl rfl ?_
      refine x_get (v := .ref (xqa (xXE X).2.2 185)) C 0 cls_X13 at_X13 (by decide) wd1502 rfl (xV_r (rt_X13_bakery  _) rfl) dX13_takesBest_63 ?_
      refine x_callV C (ct_X13_drives _ _ n 185 t5.2 at_X13_bakery) mt_X13_drives vr_X13_drives wd2161 cls_X13 at_X13 rfl ⟨rfl, rfl, Nat.le_of_ble_eq_true rfl, Nat.le_of_ble_eq_true rfl⟩ rfl (by decide) dX13_takesBest_66 (kS (fun v10 s9 => ?_))
      refine x_istore_n (L' := [(1, _), (0, _)]) C dX13_takesBest_69 rfl (by decide) rfl ?_
      exact x_vretQ C (hQ _) rfl dX13_takesBest_70
    · refine x_aload_n C 0 dX13_takesBest_28 rfl rfl ?_
      refine x_get (v := .ref (xqa (xXE X).2.2 214)) C 54 cls_X13 at_X13 (by decide) wd1556 rfl (xV_r (rt_X13_bestVan  _) rfl) dX13_takesBest_29 ?_
      refine x_iload_n C 1 dX13_takesBest_32 rfl rfl ?_
      refine x_iald C at_X13_bestVan rfl dX13_takesBest_33 (fun _ => ?_)
      refine x_iconst C (-1) dX13_takesBest_34 rfl ?_
      refine x_join (fun J => ∀ q13 : xS, WO X Qf WW q13 55 [(0, .ref (xqa (xXE X).2.2 184)), (1, iV t5.1)] [] (J q13)) ?_ ?_
      · intro q13
        refine x_inc C 1 (f := _) dX13_takesBest_55 rfl (by decide) (1) rfl (fun v14 => ?_)
        refine x_reL (L' := [(1, _), (0, _)]) rfl ?_
        refine x_goto C 22 dX13_takesBest_58 rfl ?_
        refine x_pick [1, 0] rfl ?_
        exact hr7 (v14, q13)
      · intro J11 hJ12
        refine x_icmp_eq C 55 rfl (zIl _ rfl) dX13_takesBest_35 rfl (fun c15 => x_op c15 ?_) (fun c15 => x_on c15 ?_)
        · refine x_pick [0, 1] rfl ?_
          exact hJ12 t5.2
        · refine x_aload_n C 0 dX13_takesBest_38 rfl rfl ?_
          refine x_get (v := .ref (xqa (xXE X).2.2 211)) C 48 cls_X13 at_X13 (by decide) wd1550 rfl (xV_r (rt_X13_vanSet  _) rfl) dX13_takesBest_39 ?_
          refine x_aload_n C 0 dX13_takesBest_42 rfl rfl ?_
          refine x_get (v := .ref (xqa (xXE X).2.2 214)) C 54 cls_X13 at_X13 (by decide) wd1556 rfl (xV_r (rt_X13_bestVan  _) rfl) dX13_takesBest_43 ?_
          refine x_iload_n C 1 dX13_takesBest_46 rfl rfl ?_
          refine x_iald C at_X13_bestVan rfl dX13_takesBest_47 (fun _ => ?_)
          refine x_dup2 C dX13_takesBest_48 rfl rfl ?_
          refine x_iald C at_X13_vanSet rfl dX13_takesBest_49 (fun _ => ?_)
          refine x_iconst C (1) dX13_takesBest_50 rfl ?_
          refine x_iload_n C 1 dX13_takesBest_51 rfl rfl ?_
          refine x_ishl C dX13_takesBest_52 ?_
          refine x_ior C dX13_takesBest_53 ?_
          refine x_iast C at_X13_vanSet rfl dX13_takesBest_54 (fun _ => ?_)
          refine x_letS (fun s16 => ?_)
          refine x_pick [0, 1] rfl ?_
          exact hJ12 s16
  · refine x_aload_n C 0 dX13_takesBest_7 rfl rfl ?_
    refine x_get (v := .ref (xqa (xXE X).2.2 211)) C 48 cls_X13 at_X13 (by decide) wd1550 rfl (xV_r (rt_X13_vanSet  _) rfl) dX13_takesBest_8 ?_
    refine x_iload_n C 1 dX13_takesBest_11 rfl rfl ?_
    refine x_iconst C (0) dX13_takesBest_12 rfl ?_
    refine x_iast C at_X13_vanSet rfl dX13_takesBest_13 (fun _ => ?_)
    refine x_letS (fun s17 => ?_)
    refine x_inc C 1 (f := _) dX13_takesBest_14 rfl (by decide) (1) rfl (fun v18 => ?_)
    refine x_reL (L' := [(1, _), (0, _)]) rfl ?_
    refine x_goto C 2 dX13_takesBest_17 rfl ?_
    refine x_pick [1, 0] rfl ?_
    exact hr3 (v18, s17)
theorem ct_X13_takesBest (l : Launch) (E : xE) (n : Nat) (σ : xS)   : xMet l E yX13_takesBest cX13_takesBest 2 none { frames := 4, cells := 0, slots := 0, locals := 93 } [.ref (xqa E.2.2 184)] WW WW σ (xrV (m_X13_takesBest n σ)) := by
  refine xMet.of0 (by decide) (Nat.le_of_ble_eq_true rfl) rfl rfl (fun X hE C => ?_)
  subst hE
  exact xMap (fun q => (none, q)) (wk_X13_takesBest C (fun _ => rfl) )
theorem mt_X13_takesBest : xMth yX13_takesBest cX13_takesBest 2 none 0 := ⟨wd2188, wd164, ⟨by decide, by decide, rfl⟩⟩
theorem vr_X13_takesBest : xVir yX13_takesBest := ⟨wd2187, wd142⟩
def m_X13_hasPlan (n : Nat) (σ : xS) : Option (Int × xS) :=
  xbS (m_X13_plans n 185 (σ 184 6) σ) fun v2 s1 => if (zI v2) = 0 then some (0, s1) else (m_X13_takesBest n s1).bind fun s4 => some (1, s4)
set_option maxHeartbeats 4000000 in
set_option maxRecDepth 100000 in
theorem wk_X13_hasPlan {X : xX} {Qf : (Int × xS) → State → Prop} {n : Nat} {σ : xS} (C : xCx X cX13_hasPlan "BakeryNightModel" (some .boolean) { frames := 7, cells := 0, slots := 0, locals := 163 } 1) (hQ : ∀ v τ, Qf (v, τ) = xQf X WW (some (iV v), τ))  : WO X Qf WW σ 0 [(0, .ref (xqa (xXE X).2.2 184))] [] (m_X13_hasPlan n σ) := by
  unfold m_X13_hasPlan
  refine x_aload_n C 0 dX13_hasPlan_0 rfl rfl ?_
  refine x_aload_n C 0 dX13_hasPlan_1 rfl rfl ?_
  refine x_get (v := .ref (xqa (xXE X).2.2 185)) C 0 cls_X13 at_X13 (by decide) wd1502 rfl (xV_r (rt_X13_bakery  _) rfl) dX13_hasPlan_2 ?_
  refine x_aload_n C 0 dX13_hasPlan_5 rfl rfl ?_
  refine x_get (v := iV (σ 184 6)) C 6 cls_X13 at_X13 (by decide) wd1508 rfl rfl dX13_hasPlan_6 ?_
  refine x_callV C (ct_X13_plans _ _ n 185 (σ 184 6) σ at_X13_bakery) mt_X13_plans vr_X13_plans wd2149 cls_X13 at_X13 rfl ⟨rfl, rfl, Nat.le_of_ble_eq_true rfl, Nat.le_of_ble_eq_true rfl⟩ rfl (by decide) dX13_hasPlan_9 (kS (fun v2 s1 => ?_))
  refine x_if_ne C 17 rfl dX13_hasPlan_12 rfl (fun c3 => x_on c3 ?_) (fun c3 => x_op c3 ?_)
  · refine x_aload_n C 0 dX13_hasPlan_17 rfl rfl ?_
    refine x_callV C (ct_X13_takesBest _ _ n s1) mt_X13_takesBest vr_X13_takesBest wd2185 cls_X13 at_X13 rfl ⟨rfl, rfl, Nat.le_of_ble_eq_true rfl, Nat.le_of_ble_eq_true rfl⟩ rfl (by decide) dX13_hasPlan_18 (kV (fun s4 => ?_))
    refine x_iconst C (1) dX13_hasPlan_21 rfl ?_
    exact x_zretQ C (hQ _ _) rfl (Or.inr rfl) dX13_hasPlan_22
  · refine x_iconst C (0) dX13_hasPlan_15 rfl ?_
    exact x_zretQ C (hQ _ _) rfl (Or.inl rfl) dX13_hasPlan_16
theorem ct_X13_hasPlan (l : Launch) (E : xE) (n : Nat) (σ : xS)   : xMet l E yX13_hasPlan cX13_hasPlan 1 (some .boolean) { frames := 7, cells := 0, slots := 0, locals := 163 } [.ref (xqa E.2.2 184)] WW WW σ (xrS (m_X13_hasPlan n σ)) := by
  refine xMet.of0 (by decide) (Nat.le_of_ble_eq_true rfl) rfl rfl (fun X hE C => ?_)
  subst hE
  exact xMap (fun q => (some (iV q.1), q.2)) (wk_X13_hasPlan C (fun _ _ => rfl) )
theorem mt_X13_hasPlan : xMth yX13_hasPlan cX13_hasPlan 1 (some .boolean) 0 := ⟨wd2148, wd164, ⟨by decide, by decide, rfl⟩⟩
theorem vr_X13_hasPlan : xVir yX13_hasPlan := ⟨wd2147, wd132⟩
def m_X13_bits (n : Nat) (p1 : Int) : Option Int :=
  loopF (fun rec2 (t1 : Int × Int) => if 7 ≤ (zI t1.2) then some t1.1 else xlet (if (m_X13_has p1 t1.2) = 0 then 0 else 1) fun v5 => xlet (t1.1 + v5) fun v6 => xlet (t1.2 + 1) fun v7 => rec2 (v6, v7)) n (0, 0)
set_option maxHeartbeats 4000000 in
set_option maxRecDepth 100000 in
theorem wk_X13_bits {X : xX} {Qf : Int → State → Prop} {n : Nat} {p1 : Int} {σ : xS} (C : xCx X cX13_bits "BakeryNightModel" (some .int) { frames := 1, cells := 0, slots := 0, locals := 22 } 4) (hQ : ∀ v, Qf v = xQf X WW (some (iV v), σ))  : WO X Qf WW σ 0 [(0, .ref (xqa (xXE X).2.2 184)), (1, iV p1)] [] (m_X13_bits n p1) := by
  unfold m_X13_bits
  refine x_iconst C (0) dX13_bits_0 rfl ?_
  refine x_istore_n (L' := [(2, _), (0, _), (1, _)]) C dX13_bits_1 rfl (by decide) rfl ?_
  refine x_iconst C (0) dX13_bits_2 rfl ?_
  refine x_istore_n (L' := [(3, _), (2, _), (0, _), (1, _)]) C dX13_bits_3 rfl (by decide) rfl ?_
  refine x_pick [2, 3, 1, 0] rfl ?_
  refine x_loop (fun t1 : Int × Int => σ) (fun t1 : Int × Int => [(0, .ref (xqa (xXE X).2.2 184)), (1, iV p1), (2, iV t1.1), (3, iV t1.2)]) (fun rec2 hr3 t1 => ?_) n (0, 0)
  refine x_iload_n C 3 dX13_bits_4 rfl rfl ?_
  refine x_bipush C (7) dX13_bits_5 rfl ?_
  refine x_icmp_ge C 33 rfl (zIl _ rfl) dX13_bits_7 rfl (fun c4 => x_op c4 ?_) (fun c4 => x_on c4 ?_)
  · refine x_iload_n C 2 dX13_bits_33 rfl rfl ?_
    exact x_iretQ C (hQ _) rfl dX13_bits_34
  · refine x_iload_n C 2 dX13_bits_10 rfl rfl ?_
    refine x_aload_n C 0 dX13_bits_11 rfl rfl ?_
    refine x_iload_n C 1 dX13_bits_12 rfl rfl ?_
    refine x_iload_n C 3 dX13_bits_13 rfl rfl ?_
    refine x_callV C (ct_X13_has _ _ p1 t1.2 σ) mt_X13_has vr_X13_has wd1746 cls_X13 at_X13 rfl ⟨rfl, rfl, Nat.le_of_ble_eq_true rfl, Nat.le_of_ble_eq_true rfl⟩ rfl (Nat.le_of_ble_eq_true rfl) dX13_bits_14 (kP ?_)
    refine x_tree 25 [iV t1.1] (fun v5 => ?_) (fun hJ8 => ?_)
    · refine x_iadd C dX13_bits_25 ?_
      refine x_letI (fun v6 => ?_)
      refine x_istore_n (L' := [(2, _), (0, _), (1, _), (3, _)]) C dX13_bits_26 rfl (by decide) rfl ?_
      refine x_inc C 3 (f := _) dX13_bits_27 rfl (by decide) (1) rfl (fun v7 => ?_)
      refine x_reL (L' := [(3, _), (2, _), (0, _), (1, _)]) rfl ?_
      refine x_goto C 4 dX13_bits_30 rfl ?_
      refine x_pick [2, 3, 1, 0] rfl ?_
      exact hr3 (v6, v7)
    · refine x_if_eq C 24 (zI_bo (bo_X13_has _ _)) dX13_bits_17 rfl (fun c9 => ?_) (fun c9 => ?_)
      · refine x_iconst C (0) dX13_bits_24 rfl ?_
        exact hJ8 _ (by rw [if_pos c9])
      · refine x_iconst C (1) dX13_bits_20 rfl ?_
        refine x_goto C 25 dX13_bits_21 rfl ?_
        exact hJ8 _ (by rw [if_neg c9])
theorem ct_X13_bits (l : Launch) (E : xE) (n : Nat) (p1 : Int)  (σ : xS) : xMet l E yX13_bits cX13_bits 4 (some .int) { frames := 1, cells := 0, slots := 0, locals := 22 } [.ref (xqa E.2.2 184), iV p1] WW WW σ (xrI (m_X13_bits n p1) σ) := by
  refine xMet.of0 (by decide) (Nat.le_of_ble_eq_true rfl) rfl rfl (fun X hE C => ?_)
  subst hE
  exact xMap (fun v => (some (iV v), σ)) (wk_X13_bits C (fun _ => rfl) )
theorem mt_X13_bits : xMth yX13_bits cX13_bits 4 (some .int) 1 := ⟨wd2192, wd164, ⟨by decide, by decide, rfl⟩⟩
theorem vr_X13_bits : xVir yX13_bits := ⟨wd2191, wd143⟩
def m_X13_failedShops (n : Nat) (σ : xS) : Option (Int × xS) :=
  xbS (m_X13_isNight n σ) fun v2 s1 => if (zI v2) = 0 then some ((-2), s1) else xbS (m_X13_hasPlan n s1) fun v5 s4 => xj (fun (q9 : Int) => some (q9, s4)) fun J7 => if (zI v5) = 0 then J7 (-1) else (m_X13_bits n (s4 184 47)).bind fun v11 => J7 ((s4 184 52) + v11)
set_option maxHeartbeats 4000000 in
set_option maxRecDepth 100000 in
theorem wk_X13_failedShops {X : xX} {Qf : (Int × xS) → State → Prop} {n : Nat} {σ : xS} (C : xCx X cX13_failedShops "BakeryNightModel" (some .int) { frames := 8, cells := 0, slots := 0, locals := 183 } 1) (hQ : ∀ v τ, Qf (v, τ) = xQf X WW (some (iV v), τ))  : WO X Qf WW σ 0 [(0, .ref (xqa (xXE X).2.2 184))] [] (m_X13_failedShops n σ) := by
  unfold m_X13_failedShops
  refine x_aload_n C 0 dX13_failedShops_0 rfl rfl ?_
  refine x_callV C (ct_X13_isNight _ _ n σ) mt_X13_isNight vr_X13_isNight wd2005 cls_X13 at_X13 rfl ⟨rfl, rfl, Nat.le_of_ble_eq_true rfl, Nat.le_of_ble_eq_true rfl⟩ rfl (by decide) dX13_failedShops_1 (kS (fun v2 s1 => ?_))
  refine x_if_ne C 10 rfl dX13_failedShops_4 rfl (fun c3 => x_on c3 ?_) (fun c3 => x_op c3 ?_)
  · refine x_aload_n C 0 dX13_failedShops_10 rfl rfl ?_
    refine x_callV C (ct_X13_hasPlan _ _ n s1) mt_X13_hasPlan vr_X13_hasPlan wd2145 cls_X13 at_X13 rfl ⟨rfl, rfl, Nat.le_of_ble_eq_true rfl, Nat.le_of_ble_eq_true rfl⟩ rfl (by decide) dX13_failedShops_11 (kS (fun v5 s4 => ?_))
    refine x_join (fun J => ∀ q9 : Int, WO X Qf WW s4 34 [] [iV q9] (J q9)) ?_ ?_
    · intro q9
      exact x_iretQ C (hQ _ _) rfl dX13_failedShops_34
    · intro J7 hJ8
      refine x_if_eq C 33 rfl dX13_failedShops_14 rfl (fun c10 => x_op c10 ?_) (fun c10 => x_on c10 ?_)
      · refine x_iconst C (-1) dX13_failedShops_33 rfl ?_
        refine x_pick [] rfl ?_
        exact hJ8 (-1)
      · refine x_aload_n C 0 dX13_failedShops_17 rfl rfl ?_
        refine x_get (v := iV (s4 184 52)) C 52 cls_X13 at_X13 (by decide) wd1554 rfl rfl dX13_failedShops_18 ?_
        refine x_aload_n C 0 dX13_failedShops_21 rfl rfl ?_
        refine x_aload_n C 0 dX13_failedShops_22 rfl rfl ?_
        refine x_get (v := iV (s4 184 47)) C 47 cls_X13 at_X13 (by decide) wd1549 rfl rfl dX13_failedShops_23 ?_
        refine x_callV C (ct_X13_bits _ _ n (s4 184 47) s4) mt_X13_bits vr_X13_bits wd2189 cls_X13 at_X13 rfl ⟨rfl, rfl, Nat.le_of_ble_eq_true rfl, Nat.le_of_ble_eq_true rfl⟩ rfl (Nat.le_of_ble_eq_true rfl) dX13_failedShops_26 (kI (fun v11 => ?_))
        refine x_iadd C dX13_failedShops_29 ?_
        refine x_goto C 34 dX13_failedShops_30 rfl ?_
        refine x_pick [] rfl ?_
        exact hJ8 ((s4 184 52) + v11)
  · refine x_bipush C (-2) dX13_failedShops_7 rfl ?_
    exact x_iretQ C (hQ _ _) rfl dX13_failedShops_9
theorem ct_X13_failedShops (l : Launch) (E : xE) (n : Nat) (σ : xS)   : xMet l E yX13_failedShops cX13_failedShops 1 (some .int) { frames := 8, cells := 0, slots := 0, locals := 183 } [.ref (xqa E.2.2 184)] WW WW σ (xrS (m_X13_failedShops n σ)) := by
  refine xMet.of0 (by decide) (Nat.le_of_ble_eq_true rfl) rfl rfl (fun X hE C => ?_)
  subst hE
  exact xMap (fun q => (some (iV q.1), q.2)) (wk_X13_failedShops C (fun _ _ => rfl) )
theorem mt_X13_failedShops : xMth yX13_failedShops cX13_failedShops 1 (some .int) 0 := ⟨wd2144, wd164, ⟨by decide, by decide, rfl⟩⟩
theorem vr_X13_failedShops : xVir yX13_failedShops := ⟨wd2142, wd2143⟩
def m_X13_vanOf (n : Nat) (p1 : Int) (σ : xS) : Option (Int × xS) :=
  xbS (m_X13_isNight n σ) fun v2 s1 => if (zI v2) = 0 then some ((-2), s1) else (m_X13_isShop p1 s1).bind fun v4 => xj (fun (q11 : xS × Int) => some (q11.2, q11.1)) fun J9 => xj (fun (q14 : xS) => J9 (q14, (-1))) fun J12 => if (zI v4) = 0 then J12 s1 else xbS (m_X13_hasPlan n s1) fun v17 s16 => if (zI v17) = 0 then J12 s16 else xck (zI p1) 7 <| J9 (s16, s16 214 (zI p1).toNat)
set_option maxHeartbeats 4000000 in
set_option maxRecDepth 100000 in
theorem wk_X13_vanOf {X : xX} {Qf : (Int × xS) → State → Prop} {n : Nat} {p1 : Int} {σ : xS} (C : xCx X cX13_vanOf "BakeryNightModel" (some .int) { frames := 8, cells := 0, slots := 0, locals := 183 } 2) (hQ : ∀ v τ, Qf (v, τ) = xQf X WW (some (iV v), τ))  : WO X Qf WW σ 0 [(0, .ref (xqa (xXE X).2.2 184)), (1, iV p1)] [] (m_X13_vanOf n p1 σ) := by
  unfold m_X13_vanOf
  refine x_aload_n C 0 dX13_vanOf_0 rfl rfl ?_
  refine x_callV C (ct_X13_isNight _ _ n σ) mt_X13_isNight vr_X13_isNight wd2005 cls_X13 at_X13 rfl ⟨rfl, rfl, Nat.le_of_ble_eq_true rfl, Nat.le_of_ble_eq_true rfl⟩ rfl (by decide) dX13_vanOf_1 (kS (fun v2 s1 => ?_))
  refine x_if_ne C 10 rfl dX13_vanOf_4 rfl (fun c3 => x_on c3 ?_) (fun c3 => x_op c3 ?_)
  · refine x_aload_n C 0 dX13_vanOf_10 rfl rfl ?_
    refine x_iload_n C 1 dX13_vanOf_11 rfl rfl ?_
    refine x_callV C (ct_X13_isShop _ _ p1 s1) mt_X13_isShop vr_X13_isShop wd2112 cls_X13 at_X13 rfl ⟨rfl, rfl, Nat.le_of_ble_eq_true rfl, Nat.le_of_ble_eq_true rfl⟩ rfl (by decide) dX13_vanOf_12 (kI (fun v4 => ?_))
    refine x_join (fun J => ∀ q11 : xS × Int, WO X Qf WW q11.1 35 [] [iV q11.2] (J q11)) ?_ ?_
    · intro q11
      exact x_iretQ C (hQ _ _) rfl dX13_vanOf_35
    · intro J9 hJ10
      refine x_join (fun J => ∀ q14 : xS, WO X Qf WW q14 34 [] [] (J q14)) ?_ ?_
      · intro q14
        refine x_iconst C (-1) dX13_vanOf_34 rfl ?_
        refine x_pick [] rfl ?_
        exact hJ10 (q14, (-1))
      · intro J12 hJ13
        refine x_if_eq C 34 rfl dX13_vanOf_15 rfl (fun c15 => x_op c15 ?_) (fun c15 => x_on c15 ?_)
        · refine x_pick [] rfl ?_
          exact hJ13 s1
        · refine x_aload_n C 0 dX13_vanOf_18 rfl rfl ?_
          refine x_callV C (ct_X13_hasPlan _ _ n s1) mt_X13_hasPlan vr_X13_hasPlan wd2145 cls_X13 at_X13 rfl ⟨rfl, rfl, Nat.le_of_ble_eq_true rfl, Nat.le_of_ble_eq_true rfl⟩ rfl (by decide) dX13_vanOf_19 (kS (fun v17 s16 => ?_))
          refine x_if_eq C 34 rfl dX13_vanOf_22 rfl (fun c18 => x_op c18 ?_) (fun c18 => x_on c18 ?_)
          · refine x_pick [] rfl ?_
            exact hJ13 s16
          · refine x_aload_n C 0 dX13_vanOf_25 rfl rfl ?_
            refine x_get (v := .ref (xqa (xXE X).2.2 214)) C 54 cls_X13 at_X13 (by decide) wd1556 rfl (xV_r (rt_X13_bestVan  _) rfl) dX13_vanOf_26 ?_
            refine x_iload_n C 1 dX13_vanOf_29 rfl rfl ?_
            refine x_iald C at_X13_bestVan rfl dX13_vanOf_30 (fun _ => ?_)
            refine x_goto C 35 dX13_vanOf_31 rfl ?_
            refine x_pick [] rfl ?_
            exact hJ10 (s16, s16 214 (zI p1).toNat)
  · refine x_bipush C (-2) dX13_vanOf_7 rfl ?_
    exact x_iretQ C (hQ _ _) rfl dX13_vanOf_9
theorem ct_X13_vanOf (l : Launch) (E : xE) (n : Nat) (p1 : Int) (σ : xS)   : xMet l E yX13_vanOf cX13_vanOf 2 (some .int) { frames := 8, cells := 0, slots := 0, locals := 183 } [.ref (xqa E.2.2 184), iV p1] WW WW σ (xrS (m_X13_vanOf n p1 σ)) := by
  refine xMet.of0 (by decide) (Nat.le_of_ble_eq_true rfl) rfl rfl (fun X hE C => ?_)
  subst hE
  exact xMap (fun q => (some (iV q.1), q.2)) (wk_X13_vanOf C (fun _ _ => rfl) )
theorem mt_X13_vanOf : xMth yX13_vanOf cX13_vanOf 2 (some .int) 1 := ⟨wd2196, wd164, ⟨by decide, by decide, rfl⟩⟩
theorem vr_X13_vanOf : xVir yX13_vanOf := ⟨wd2194, wd2195⟩
def m_X13_arrivalMinute (n : Nat) (p1 : Int) (σ : xS) : Option (Int × xS) :=
  xbS (m_X13_isNight n σ) fun v2 s1 => if (zI v2) = 0 then some ((-2), s1) else (m_X13_isShop p1 s1).bind fun v4 => xj (fun (q11 : xS × Int) => some (q11.2, q11.1)) fun J9 => xj (fun (q14 : xS) => J9 (q14, (-1))) fun J12 => if (zI v4) = 0 then J12 s1 else xbS (m_X13_hasPlan n s1) fun v17 s16 => if (zI v17) = 0 then J12 s16 else xck (zI p1) 7 <| if (zI (s16 214 (zI p1).toNat)) = (-1) then J12 s16 else xck (zI p1) 7 <| J9 (s16, (s16 184 6) + (s16 213 (zI p1).toNat))
set_option maxHeartbeats 4000000 in
set_option maxRecDepth 100000 in
theorem wk_X13_arrivalMinute {X : xX} {Qf : (Int × xS) → State → Prop} {n : Nat} {p1 : Int} {σ : xS} (C : xCx X cX13_arrivalMinute "BakeryNightModel" (some .int) { frames := 8, cells := 0, slots := 0, locals := 183 } 2) (hQ : ∀ v τ, Qf (v, τ) = xQf X WW (some (iV v), τ))  : WO X Qf WW σ 0 [(0, .ref (xqa (xXE X).2.2 184)), (1, iV p1)] [] (m_X13_arrivalMinute n p1 σ) := by
  unfold m_X13_arrivalMinute
  refine x_aload_n C 0 dX13_arrivalMinute_0 rfl rfl ?_
  refine x_callV C (ct_X13_isNight _ _ n σ) mt_X13_isNight vr_X13_isNight wd2005 cls_X13 at_X13 rfl ⟨rfl, rfl, Nat.le_of_ble_eq_true rfl, Nat.le_of_ble_eq_true rfl⟩ rfl (by decide) dX13_arrivalMinute_1 (kS (fun v2 s1 => ?_))
  refine x_if_ne C 10 rfl dX13_arrivalMinute_4 rfl (fun c3 => x_on c3 ?_) (fun c3 => x_op c3 ?_)
  · refine x_aload_n C 0 dX13_arrivalMinute_10 rfl rfl ?_
    refine x_iload_n C 1 dX13_arrivalMinute_11 rfl rfl ?_
    refine x_callV C (ct_X13_isShop _ _ p1 s1) mt_X13_isShop vr_X13_isShop wd2112 cls_X13 at_X13 rfl ⟨rfl, rfl, Nat.le_of_ble_eq_true rfl, Nat.le_of_ble_eq_true rfl⟩ rfl (by decide) dX13_arrivalMinute_12 (kI (fun v4 => ?_))
    refine x_join (fun J => ∀ q11 : xS × Int, WO X Qf WW q11.1 50 [] [iV q11.2] (J q11)) ?_ ?_
    · intro q11
      exact x_iretQ C (hQ _ _) rfl dX13_arrivalMinute_50
    · intro J9 hJ10
      refine x_join (fun J => ∀ q14 : xS, WO X Qf WW q14 49 [] [] (J q14)) ?_ ?_
      · intro q14
        refine x_iconst C (-1) dX13_arrivalMinute_49 rfl ?_
        refine x_pick [] rfl ?_
        exact hJ10 (q14, (-1))
      · intro J12 hJ13
        refine x_if_eq C 49 rfl dX13_arrivalMinute_15 rfl (fun c15 => x_op c15 ?_) (fun c15 => x_on c15 ?_)
        · refine x_pick [] rfl ?_
          exact hJ13 s1
        · refine x_aload_n C 0 dX13_arrivalMinute_18 rfl rfl ?_
          refine x_callV C (ct_X13_hasPlan _ _ n s1) mt_X13_hasPlan vr_X13_hasPlan wd2145 cls_X13 at_X13 rfl ⟨rfl, rfl, Nat.le_of_ble_eq_true rfl, Nat.le_of_ble_eq_true rfl⟩ rfl (by decide) dX13_arrivalMinute_19 (kS (fun v17 s16 => ?_))
          refine x_if_eq C 49 rfl dX13_arrivalMinute_22 rfl (fun c18 => x_op c18 ?_) (fun c18 => x_on c18 ?_)
          · refine x_pick [] rfl ?_
            exact hJ13 s16
          · refine x_aload_n C 0 dX13_arrivalMinute_25 rfl rfl ?_
            refine x_get (v := .ref (xqa (xXE X).2.2 214)) C 54 cls_X13 at_X13 (by decide) wd1556 rfl (xV_r (rt_X13_bestVan  _) rfl) dX13_arrivalMinute_26 ?_
            refine x_iload_n C 1 dX13_arrivalMinute_29 rfl rfl ?_
            refine x_iald C at_X13_bestVan rfl dX13_arrivalMinute_30 (fun _ => ?_)
            refine x_iconst C (-1) dX13_arrivalMinute_31 rfl ?_
            refine x_icmp_eq C 49 rfl (zIl _ rfl) dX13_arrivalMinute_32 rfl (fun c19 => x_op c19 ?_) (fun c19 => x_on c19 ?_)
            · refine x_pick [] rfl ?_
              exact hJ13 s16
            · refine x_aload_n C 0 dX13_arrivalMinute_35 rfl rfl ?_
              refine x_get (v := iV (s16 184 6)) C 6 cls_X13 at_X13 (by decide) wd1508 rfl rfl dX13_arrivalMinute_36 ?_
              refine x_aload_n C 0 dX13_arrivalMinute_39 rfl rfl ?_
              refine x_get (v := .ref (xqa (xXE X).2.2 213)) C 51 cls_X13 at_X13 (by decide) wd1553 rfl (xV_r (rt_X13_arrives  _) rfl) dX13_arrivalMinute_40 ?_
              refine x_iload_n C 1 dX13_arrivalMinute_43 rfl rfl ?_
              refine x_iald C at_X13_arrives rfl dX13_arrivalMinute_44 (fun _ => ?_)
              refine x_iadd C dX13_arrivalMinute_45 ?_
              refine x_goto C 50 dX13_arrivalMinute_46 rfl ?_
              refine x_pick [] rfl ?_
              exact hJ10 (s16, (s16 184 6) + (s16 213 (zI p1).toNat))
  · refine x_bipush C (-2) dX13_arrivalMinute_7 rfl ?_
    exact x_iretQ C (hQ _ _) rfl dX13_arrivalMinute_9
theorem ct_X13_arrivalMinute (l : Launch) (E : xE) (n : Nat) (p1 : Int) (σ : xS)   : xMet l E yX13_arrivalMinute cX13_arrivalMinute 2 (some .int) { frames := 8, cells := 0, slots := 0, locals := 183 } [.ref (xqa E.2.2 184), iV p1] WW WW σ (xrS (m_X13_arrivalMinute n p1 σ)) := by
  refine xMet.of0 (by decide) (Nat.le_of_ble_eq_true rfl) rfl rfl (fun X hE C => ?_)
  subst hE
  exact xMap (fun q => (some (iV q.1), q.2)) (wk_X13_arrivalMinute C (fun _ _ => rfl) )
theorem mt_X13_arrivalMinute : xMth yX13_arrivalMinute cX13_arrivalMinute 2 (some .int) 1 := ⟨wd2200, wd164, ⟨by decide, by decide, rfl⟩⟩
theorem vr_X13_arrivalMinute : xVir yX13_arrivalMinute := ⟨wd2198, wd2199⟩
def m_X13_departureMinute (n : Nat) (p1 : Int) (σ : xS) : Option (Int × xS) :=
  xbS (m_X13_isNight n σ) fun v2 s1 => if (zI v2) = 0 then some ((-2), s1) else xck 8 289 <| xj (fun (q10 : xS × Int) => some (q10.2, q10.1)) fun J8 => xj (fun (q13 : xS) => J8 (q13, (-1))) fun J11 => if (m_X13_isIn (zI p1) 0 ((zI (s1 185 (8 : Int).toNat)) - 1)) = 0 then J11 s1 else xbS (m_X13_hasPlan n s1) fun v16 s15 => if (zI v16) = 0 then J11 s15 else xck (zI p1) 3 <| if (zI (s15 211 (zI p1).toNat)) = 0 then J11 s15 else (m_X13_leaves n p1 s15).bind fun v19 => J8 (s15, (s15 184 6) + v19)
set_option maxHeartbeats 4000000 in
set_option maxRecDepth 100000 in
theorem wk_X13_departureMinute {X : xX} {Qf : (Int × xS) → State → Prop} {n : Nat} {p1 : Int} {σ : xS} (C : xCx X cX13_departureMinute "BakeryNightModel" (some .int) { frames := 8, cells := 0, slots := 0, locals := 183 } 2) (hQ : ∀ v τ, Qf (v, τ) = xQf X WW (some (iV v), τ))  : WO X Qf WW σ 0 [(0, .ref (xqa (xXE X).2.2 184)), (1, iV p1)] [] (m_X13_departureMinute n p1 σ) := by
  unfold m_X13_departureMinute
  refine x_aload_n C 0 dX13_departureMinute_0 rfl rfl ?_
  refine x_callV C (ct_X13_isNight _ _ n σ) mt_X13_isNight vr_X13_isNight wd2005 cls_X13 at_X13 rfl ⟨rfl, rfl, Nat.le_of_ble_eq_true rfl, Nat.le_of_ble_eq_true rfl⟩ rfl (by decide) dX13_departureMinute_1 (kS (fun v2 s1 => ?_))
  refine x_if_ne C 10 rfl dX13_departureMinute_4 rfl (fun c3 => x_on c3 ?_) (fun c3 => x_op c3 ?_)
  · refine x_aload_n C 0 dX13_departureMinute_10 rfl rfl ?_
    refine x_iload_n C 1 dX13_departureMinute_11 rfl rfl ?_
    refine x_i2l C dX13_departureMinute_12 ?_
    refine x_lconst C 0 dX13_departureMinute_13 rfl ?_
    refine x_aload_n C 0 dX13_departureMinute_14 rfl rfl ?_
    refine x_get (v := .ref (xqa (xXE X).2.2 185)) C 0 cls_X13 at_X13 (by decide) wd1502 rfl (xV_r (rt_X13_bakery  _) rfl) dX13_departureMinute_15 ?_
    refine x_bipush C (8) dX13_departureMinute_18 rfl ?_
    refine x_iald C at_X13_bakery (zIl _ rfl) dX13_departureMinute_20 (fun _ => ?_)
    refine x_i2l C dX13_departureMinute_21 ?_
    refine x_lconst C 1 dX13_departureMinute_22 rfl ?_
    refine x_lsub C dX13_departureMinute_23 ?_
    refine x_callV C (ct_X13_isIn _ _ (zI p1) 0 ((zI (s1 185 (8 : Int).toNat)) - 1) s1) mt_X13_isIn vr_X13_isIn wd1680 cls_X13 at_X13 rfl ⟨rfl, rfl, Nat.le_of_ble_eq_true rfl, Nat.le_of_ble_eq_true rfl⟩ rfl (by decide) dX13_departureMinute_24 (kP ?_)
    refine x_join (fun J => ∀ q10 : xS × Int, WO X Qf WW q10.1 60 [] [iV q10.2] (J q10)) ?_ ?_
    · intro q10
      exact x_iretQ C (hQ _ _) rfl dX13_departureMinute_60
    · intro J8 hJ9
      refine x_join (fun J => ∀ q13 : xS, WO X Qf WW q13 59 [] [] (J q13)) ?_ ?_
      · intro q13
        refine x_iconst C (-1) dX13_departureMinute_59 rfl ?_
        refine x_pick [] rfl ?_
        exact hJ9 (q13, (-1))
      · intro J11 hJ12
        refine x_if_eq C 59 (zI_bo (bo_X13_isIn _ _ _)) dX13_departureMinute_27 rfl (fun c14 => x_op c14 ?_) (fun c14 => x_on c14 ?_)
        · refine x_pick [] rfl ?_
          exact hJ12 s1
        · refine x_aload_n C 0 dX13_departureMinute_30 rfl rfl ?_
          refine x_callV C (ct_X13_hasPlan _ _ n s1) mt_X13_hasPlan vr_X13_hasPlan wd2145 cls_X13 at_X13 rfl ⟨rfl, rfl, Nat.le_of_ble_eq_true rfl, Nat.le_of_ble_eq_true rfl⟩ rfl (by decide) dX13_departureMinute_31 (kS (fun v16 s15 => ?_))
          refine x_if_eq C 59 rfl dX13_departureMinute_34 rfl (fun c17 => x_op c17 ?_) (fun c17 => x_on c17 ?_)
          · refine x_pick [] rfl ?_
            exact hJ12 s15
          · refine x_aload_n C 0 dX13_departureMinute_37 rfl rfl ?_
            refine x_get (v := .ref (xqa (xXE X).2.2 211)) C 48 cls_X13 at_X13 (by decide) wd1550 rfl (xV_r (rt_X13_vanSet  _) rfl) dX13_departureMinute_38 ?_
            refine x_iload_n C 1 dX13_departureMinute_41 rfl rfl ?_
            refine x_iald C at_X13_vanSet rfl dX13_departureMinute_42 (fun _ => ?_)
            refine x_if_eq C 59 rfl dX13_departureMinute_43 rfl (fun c18 => x_op c18 ?_) (fun c18 => x_on c18 ?_)
            · refine x_pick [] rfl ?_
              exact hJ12 s15
            · refine x_aload_n C 0 dX13_departureMinute_46 rfl rfl ?_
              refine x_get (v := iV (s15 184 6)) C 6 cls_X13 at_X13 (by decide) wd1508 rfl rfl dX13_departureMinute_47 ?_
              refine x_aload_n C 0 dX13_departureMinute_50 rfl rfl ?_
              refine x_iload_n C 1 dX13_departureMinute_51 rfl rfl ?_
              refine x_callV C (ct_X13_leaves _ _ n p1 s15) mt_X13_leaves vr_X13_leaves wd2173 cls_X13 at_X13 rfl ⟨rfl, rfl, Nat.le_of_ble_eq_true rfl, Nat.le_of_ble_eq_true rfl⟩ rfl (Nat.le_of_ble_eq_true rfl) dX13_departureMinute_52 (kI (fun v19 => ?_))
              refine x_iadd C dX13_departureMinute_55 ?_
              refine x_goto C 60 dX13_departureMinute_56 rfl ?_
              refine x_pick [] rfl ?_
              exact hJ9 (s15, (s15 184 6) + v19)
  · refine x_bipush C (-2) dX13_departureMinute_7 rfl ?_
    exact x_iretQ C (hQ _ _) rfl dX13_departureMinute_9
theorem ct_X13_departureMinute (l : Launch) (E : xE) (n : Nat) (p1 : Int) (σ : xS)   : xMet l E yX13_departureMinute cX13_departureMinute 2 (some .int) { frames := 8, cells := 0, slots := 0, locals := 183 } [.ref (xqa E.2.2 184), iV p1] WW WW σ (xrS (m_X13_departureMinute n p1 σ)) := by
  refine xMet.of0 (by decide) (Nat.le_of_ble_eq_true rfl) rfl rfl (fun X hE C => ?_)
  subst hE
  exact xMap (fun q => (some (iV q.1), q.2)) (wk_X13_departureMinute C (fun _ _ => rfl) )
theorem mt_X13_departureMinute : xMth yX13_departureMinute cX13_departureMinute 2 (some .int) 1 := ⟨wd2204, wd164, ⟨by decide, by decide, rfl⟩⟩
theorem vr_X13_departureMinute : xVir yX13_departureMinute := ⟨wd2202, wd2203⟩
def m_X13_staleOrders (n : Nat) (σ : xS) : Option (Int × xS) :=
  xbS (m_X13_isNight n σ) fun v2 s1 => if (zI v2) = 0 then some ((-2), s1) else xbS (m_X13_hasPlan n s1) fun v5 s4 => if (zI v5) = 0 then some ((-1), s4) else loopF (fun rec8 (t7 : Int × Int) => xck 9 289 <| if (zI (s4 185 (9 : Int).toNat)) ≤ (zI t7.2) then some (t7.1, s4) else (m_X13_isMeant 185 t7.2 s4).bind fun v11 => xj (fun (q15 : Int) => xlet (t7.2 + 1) fun v16 => rec8 (q15, v16)) fun J13 => if (zI v11) = 0 then J13 t7.1 else (m_X13_order 185 t7.2 0 s4).bind fun v18 => if (m_X13_has (s4 184 46) v18) = 0 then J13 t7.1 else (m_X13_order 185 t7.2 1 s4).bind fun v20 => (m_X13_order 185 t7.2 0 s4).bind fun v21 => xck (zI v21) 7 <| (m_X13_givenAhead n 185 t7.2 s4).bind fun v22 => (m_X13_outAt n 185 v20 v22 s4).bind fun v23 => (m_X13_dough 185 v20 8 s4).bind fun v24 => xlet (if (zI ((s4 213 (zI v21).toNat) - v23)) ≤ (zI v24) then 0 else 1) fun v25 => xlet (t7.1 + v25) fun v26 => J13 v26) n (0, 0)
set_option maxHeartbeats 4000000 in
set_option maxRecDepth 100000 in
theorem wk_X13_staleOrders {X : xX} {Qf : (Int × xS) → State → Prop} {n : Nat} {σ : xS} (C : xCx X cX13_staleOrders "BakeryNightModel" (some .int) { frames := 8, cells := 0, slots := 0, locals := 183 } 4) (hQ : ∀ v τ, Qf (v, τ) = xQf X WW (some (iV v), τ))  : WO X Qf WW σ 0 [(0, .ref (xqa (xXE X).2.2 184))] [] (m_X13_staleOrders n σ) := by
  unfold m_X13_staleOrders
  refine x_aload_n C 0 dX13_staleOrders_0 rfl rfl ?_
  refine x_callV C (ct_X13_isNight _ _ n σ) mt_X13_isNight vr_X13_isNight wd2005 cls_X13 at_X13 rfl ⟨rfl, rfl, Nat.le_of_ble_eq_true rfl, Nat.le_of_ble_eq_true rfl⟩ rfl (by decide) dX13_staleOrders_1 (kS (fun v2 s1 => ?_))
  refine x_if_ne C 10 rfl dX13_staleOrders_4 rfl (fun c3 => x_on c3 ?_) (fun c3 => x_op c3 ?_)
  · refine x_aload_n C 0 dX13_staleOrders_10 rfl rfl ?_
    refine x_callV C (ct_X13_hasPlan _ _ n s1) mt_X13_hasPlan vr_X13_hasPlan wd2145 cls_X13 at_X13 rfl ⟨rfl, rfl, Nat.le_of_ble_eq_true rfl, Nat.le_of_ble_eq_true rfl⟩ rfl (by decide) dX13_staleOrders_11 (kS (fun v5 s4 => ?_))
    refine x_if_ne C 19 rfl dX13_staleOrders_14 rfl (fun c6 => x_on c6 ?_) (fun c6 => x_op c6 ?_)
    · refine x_iconst C (0) dX13_staleOrders_19 rfl ?_
      refine x_istore_n (L' := [(1, _), (0, _)]) C dX13_staleOrders_20 rfl (by decide) rfl ?_
      refine x_iconst C (0) dX13_staleOrders_21 rfl ?_
      refine x_istore_n (L' := [(2, _), (1, _), (0, _)]) C dX13_staleOrders_22 rfl (by decide) rfl ?_
      refine x_pick [2, 1, 0] rfl ?_
      refine x_loop (fun t7 : Int × Int => s4) (fun t7 : Int × Int => [(0, .ref (xqa (xXE X).2.2 184)), (1, iV t7.1), (2, iV t7.2)]) (fun rec8 hr9 t7 => ?_) n (0, 0)
      refine x_iload_n C 2 dX13_staleOrders_23 rfl rfl ?_
      refine x_aload_n C 0 dX13_staleOrders_24 rfl rfl ?_
      refine x_get (v := .ref (xqa (xXE X).2.2 185)) C 0 cls_X13 at_X13 (by decide) wd1502 rfl (xV_r (rt_X13_bakery  _) rfl) dX13_staleOrders_25 ?_
      refine x_bipush C (9) dX13_staleOrders_28 rfl ?_
      refine x_iald C at_X13_bakery (zIl _ rfl) dX13_staleOrders_30 (fun _ => ?_)
      refine x_icmp_ge C 143 rfl rfl dX13_staleOrders_31 rfl (fun c10 => x_op c10 ?_) (fun c10 => x_on c10 ?_)
      · refine x_iload_n C 1 dX13_staleOrders_143 rfl rfl ?_
        exact x_iretQ C (hQ _ _) rfl dX13_staleOrders_144
      · refine x_aload_n C 0 dX13_staleOrders_34 rfl rfl ?_
        refine x_aload_n C 0 dX13_staleOrders_35 rfl rfl ?_
        refine x_get (v := .ref (xqa (xXE X).2.2 185)) C 0 cls_X13 at_X13 (by decide) wd1502 rfl (xV_r (rt_X13_bakery  _) rfl) dX13_staleOrders_36 ?_
        refine x_iload_n C 2 dX13_staleOrders_39 rfl rfl ?_
        refine x_callV C (ct_X13_isMeant _ _ 185 t7.2 s4 at_X13_bakery) mt_X13_isMeant vr_X13_isMeant wd1875 cls_X13 at_X13 rfl ⟨rfl, rfl, Nat.le_of_ble_eq_true rfl, Nat.le_of_ble_eq_true rfl⟩ rfl (by decide) dX13_staleOrders_40 (kI (fun v11 => ?_))
        refine x_join (fun J => ∀ q15 : Int, WO X Qf WW s4 137 [(0, .ref (xqa (xXE X).2.2 184)), (1, iV q15), (2, iV t7.2)] [] (J q15)) ?_ ?_
        · intro q15
          refine x_inc C 2 (f := _) dX13_staleOrders_137 rfl (by decide) (1) rfl (fun v16 => ?_)
          refine x_reL (L' := [(2, _), (0, _), (1, _)]) rfl ?_
          refine x_goto C 23 dX13_staleOrders_140 rfl ?_
          refine x_pick [1, 2, 0] rfl ?_
          exact hr9 (q15, v16)
        · intro J13 hJ14
          refine x_if_eq C 137 rfl dX13_staleOrders_43 rfl (fun c17 => x_op c17 ?_) (fun c17 => x_on c17 ?_)
          · refine x_pick [0, 1, 2] rfl ?_
            exact hJ14 t7.1
          · refine x_aload_n C 0 dX13_staleOrders_46 rfl rfl ?_
            refine x_aload_n C 0 dX13_staleOrders_47 rfl rfl ?_
            refine x_get (v := iV (s4 184 46)) C 46 cls_X13 at_X13 (by decide) wd1548 rfl rfl dX13_staleOrders_48 ?_
            refine x_aload_n C 0 dX13_staleOrders_51 rfl rfl ?_
            refine x_aload_n C 0 dX13_staleOrders_52 rfl rfl ?_
            refine x_get (v := .ref (xqa (xXE X).2.2 185)) C 0 cls_X13 at_X13 (by decide) wd1502 rfl (xV_r (rt_X13_bakery  _) rfl) dX13_staleOrders_53 ?_
            refine x_iload_n C 2 dX13_staleOrders_56 rfl rfl ?_
            refine x_iconst C (0) dX13_staleOrders_57 rfl ?_
            refine x_callV C (ct_X13_order _ _ 185 t7.2 0 s4 at_X13_bakery) mt_X13_order vr_X13_order wd1879 cls_X13 at_X13 rfl ⟨rfl, rfl, Nat.le_of_ble_eq_true rfl, Nat.le_of_ble_eq_true rfl⟩ rfl (Nat.le_of_ble_eq_true rfl) dX13_staleOrders_58 (kI (fun v18 => ?_))
            refine x_callV C (ct_X13_has _ _ (s4 184 46) v18 s4) mt_X13_has vr_X13_has wd1746 cls_X13 at_X13 rfl ⟨rfl, rfl, Nat.le_of_ble_eq_true rfl, Nat.le_of_ble_eq_true rfl⟩ rfl (by decide) dX13_staleOrders_61 (kP ?_)
            refine x_if_ne C 70 (zI_bo (bo_X13_has _ _)) dX13_staleOrders_64 rfl (fun c19 => x_on c19 ?_) (fun c19 => x_op c19 ?_)
            · refine x_aload_n C 0 dX13_staleOrders_70 rfl rfl ?_
              refine x_aload_n C 0 dX13_staleOrders_71 rfl rfl ?_
              refine x_get (v := .ref (xqa (xXE X).2.2 185)) C 0 cls_X13 at_X13 (by decide) wd1502 rfl (xV_r (rt_X13_bakery  _) rfl) dX13_staleOrders_72 ?_
              refine x_iload_n C 2 dX13_staleOrders_75 rfl rfl ?_
              refine x_iconst C (1) dX13_staleOrders_76 rfl ?_
              refine x_callV C (ct_X13_order _ _ 185 t7.2 1 s4 at_X13_bakery) mt_X13_order vr_X13_order wd1879 cls_X13 at_X13 rfl ⟨rfl, rfl, Nat.le_of_ble_eq_true rfl, Nat.le_of_ble_eq_true rfl⟩ rfl (by decide) dX13_staleOrders_77 (kI (fun v20 => ?_))
              refine x_istore_n (L' := [(3, _), (0, _), (1, _), (2, _)]) C dX13_staleOrders_80 rfl (by decide) rfl ?_
              refine x_iload_n C 2 dX13_staleOrders_81 rfl rfl ?_
              refine x_aload_n C 1 dX13_staleOrders_82 rfl rfl ?_
              refine x_get (v := .ref (xqa (xXE X).2.2 213)) C 51 cls_X13 at_X13 (by decide) wd1553 rfl (xV_r (rt_X13_arrives  _) rfl) dX13_staleOrders_83 ?_
              refine x_aload_n C 1 dX13_staleOrders_86 rfl rfl ?_
              refine x_aload_n C 1 dX13_staleOrders_87 rfl rfl ?_
              refine x_get (v := .ref (xqa (xXE X).2.2 185)) C 0 cls_X13 at_X13 (by decide) wd1502 rfl (xV_r (rt_X13_bakery  _) rfl) dX13_staleOrders_88 ?_
              refine x_iload_n C 3 dX13_staleOrders_91 rfl rfl ?_
              refine x_iconst C (0) dX13_staleOrders_92 rfl ?_
              refine x_callV C (ct_X13_order _ _ 185 t7.2 0 s4 at_X13_bakery) mt_X13_order vr_X13_order wd1879 cls_X13 at_X13 rfl ⟨rfl, rfl, Nat.le_of_ble_eq_true rfl, Nat.le_of_ble_eq_true rfl⟩ rfl (Nat.le_of_ble_eq_true rfl) dX13_staleOrders_93 (kI (fun v21 => ?_))
              refine x_iald C at_X13_arrives rfl dX13_staleOrders_96 (fun _ => ?_)
              refine x_aload_n C 1 dX13_staleOrders_97 rfl rfl ?_
              refine x_aload_n C 1 dX13_staleOrders_98 rfl rfl ?_
              refine x_get (v := .ref (xqa (xXE X).2.2 185)) C 0 cls_X13 at_X13 (by decide) wd1502 rfl (xV_r (rt_X13_bakery  _) rfl) dX13_staleOrders_99 ?_
              refine x_iload_n C 0 dX13_staleOrders_102 rfl rfl ?_
              refine x_aload_n C 1 dX13_staleOrders_103 rfl rfl ?_
              refine x_aload_n C 1 dX13_staleOrders_104 rfl rfl ?_
              refine x_get (v := .ref (xqa (xXE X).2.2 185)) C 0 cls_X13 at_X13 (by decide) wd1502 rfl (xV_r (rt_X13_bakery  _) rfl) dX13_staleOrders_105 ?_
              refine x_iload_n C 3 dX13_staleOrders_108 rfl rfl ?_
              refine x_callV C (ct_X13_givenAhead _ _ n 185 t7.2 s4 at_X13_bakery) mt_X13_givenAhead vr_X13_givenAhead wd2079 cls_X13 at_X13 rfl ⟨rfl, rfl, Nat.le_of_ble_eq_true rfl, Nat.le_of_ble_eq_true rfl⟩ rfl (Nat.le_of_ble_eq_true rfl) dX13_staleOrders_109 (kI (fun v22 => ?_))
              refine x_callV C (ct_X13_outAt _ _ n 185 v20 v22 s4 at_X13_bakery) mt_X13_outAt vr_X13_outAt wd2091 cls_X13 at_X13 rfl ⟨rfl, rfl, Nat.le_of_ble_eq_true rfl, Nat.le_of_ble_eq_true rfl⟩ rfl (Nat.le_of_ble_eq_true rfl) dX13_staleOrders_112 (kI (fun v23 => ?_))
              refine x_isub C dX13_staleOrders_115 ?_
              refine x_aload_n C 1 dX13_staleOrders_116 rfl rfl ?_
              refine x_aload_n C 1 dX13_staleOrders_117 rfl rfl ?_
              refine x_get (v := .ref (xqa (xXE X).2.2 185)) C 0 cls_X13 at_X13 (by decide) wd1502 rfl (xV_r (rt_X13_bakery  _) rfl) dX13_staleOrders_118 ?_
              refine x_iload_n C 0 dX13_staleOrders_121 rfl rfl ?_
              refine x_bipush C (8) dX13_staleOrders_122 rfl ?_
              refine x_callV C (ct_X13_dough _ _ 185 v20 8 s4 at_X13_bakery) mt_X13_dough vr_X13_dough wd1895 cls_X13 at_X13 rfl ⟨rfl, rfl, Nat.le_of_ble_eq_true rfl, Nat.le_of_ble_eq_true rfl⟩ rfl (Nat.le_of_ble_eq_true rfl) dX13_staleOrders_124 (kI (fun v24 => ?_))
              refine x_tree 135 [iV t7.1] (fun v25 => ?_) (fun hJ27 => ?_)
              · refine x_iadd C dX13_staleOrders_135 ?_
                refine x_letI (fun v26 => ?_)
                refine x_istore_n (L' := [(1, _), (3, _), (0, _), (2, _)]) C dX13_staleOrders_136 rfl (by decide) rfl ?_
                refine x_pick [2, 0, 3] rfl ?_
                exact hJ14 v26
              · refine x_icmp_le C 134 rfl rfl dX13_staleOrders_127 rfl (fun c28 => ?_) (fun c28 => ?_)
                · refine x_iconst C (0) dX13_staleOrders_134 rfl ?_
                  exact hJ27 _ (by rw [if_pos c28])
                · refine x_iconst C (1) dX13_staleOrders_130 rfl ?_
                  refine x_goto C 135 dX13_staleOrders_131 rfl ?_
                  exact hJ27 _ (by rw [if_neg c28])
            · refine x_goto C 137 dX13_staleOrders_67 rfl ?_
              refine x_pick [0, 1, 2] rfl ?_
              exact hJ14 t7.1
    · refine x_iconst C (-1) dX13_staleOrders_17 rfl ?_
      exact x_iretQ C (hQ _ _) rfl dX13_staleOrders_18
  · refine x_bipush C (-2) dX13_staleOrders_7 rfl ?_
    exact x_iretQ C (hQ _ _) rfl dX13_staleOrders_9
theorem ct_X13_staleOrders (l : Launch) (E : xE) (n : Nat) (σ : xS)   : xMet l E yX13_staleOrders cX13_staleOrders 4 (some .int) { frames := 8, cells := 0, slots := 0, locals := 183 } [.ref (xqa E.2.2 184)] WW WW σ (xrS (m_X13_staleOrders n σ)) := by
  refine xMet.of0 (by decide) (Nat.le_of_ble_eq_true rfl) rfl rfl (fun X hE C => ?_)
  subst hE
  exact xMap (fun q => (some (iV q.1), q.2)) (wk_X13_staleOrders C (fun _ _ => rfl) )
theorem mt_X13_staleOrders : xMth yX13_staleOrders cX13_staleOrders 4 (some .int) 0 := ⟨wd2208, wd164, ⟨by decide, by decide, rfl⟩⟩
theorem vr_X13_staleOrders : xVir yX13_staleOrders := ⟨wd2206, wd2207⟩
def m_X13_slack (n : Nat) (σ : xS) : Option Int :=
  loopF (fun rec2 (t1 : Int × Int) => if 7 ≤ (zI t1.2) then some t1.1 else xj (fun (q7 : Int) => xlet (t1.2 + 1) fun v8 => rec2 (q7, v8)) fun J5 => if (m_X13_has (σ 184 46) t1.2) = 0 then J5 t1.1 else xck (zI t1.2) 7 <| xck (zI t1.2) 7 <| xlet (m_X13_lesser t1.1 ((σ 209 (zI t1.2).toNat) - (σ 213 (zI t1.2).toNat))) fun v10 => J5 v10) n (1439, 0)
set_option maxHeartbeats 4000000 in
set_option maxRecDepth 100000 in
theorem wk_X13_slack {X : xX} {Qf : Int → State → Prop} {n : Nat} {σ : xS} (C : xCx X cX13_slack "BakeryNightModel" (some .int) { frames := 1, cells := 0, slots := 0, locals := 22 } 3) (hQ : ∀ v, Qf v = xQf X WW (some (iV v), σ))  : WO X Qf WW σ 0 [(0, .ref (xqa (xXE X).2.2 184))] [] (m_X13_slack n σ) := by
  unfold m_X13_slack
  refine x_sipush C (1439) dX13_slack_0 rfl ?_
  refine x_istore_n (L' := [(1, _), (0, _)]) C dX13_slack_3 rfl (by decide) rfl ?_
  refine x_iconst C (0) dX13_slack_4 rfl ?_
  refine x_istore_n (L' := [(2, _), (1, _), (0, _)]) C dX13_slack_5 rfl (by decide) rfl ?_
  refine x_pick [2, 1, 0] rfl ?_
  refine x_loop (fun t1 : Int × Int => σ) (fun t1 : Int × Int => [(0, .ref (xqa (xXE X).2.2 184)), (1, iV t1.1), (2, iV t1.2)]) (fun rec2 hr3 t1 => ?_) n (1439, 0)
  refine x_iload_n C 2 dX13_slack_6 rfl rfl ?_
  refine x_bipush C (7) dX13_slack_7 rfl ?_
  refine x_icmp_ge C 49 rfl (zIl _ rfl) dX13_slack_9 rfl (fun c4 => x_op c4 ?_) (fun c4 => x_on c4 ?_)
  · refine x_iload_n C 1 dX13_slack_49 rfl rfl ?_
    exact x_iretQ C (hQ _) rfl dX13_slack_50
  · refine x_aload_n C 0 dX13_slack_12 rfl rfl ?_
    refine x_aload_n C 0 dX13_slack_13 rfl rfl ?_
    refine x_get (v := iV (σ 184 46)) C 46 cls_X13 at_X13 (by decide) wd1548 rfl rfl dX13_slack_14 ?_
    refine x_iload_n C 2 dX13_slack_17 rfl rfl ?_
    refine x_callV C (ct_X13_has _ _ (σ 184 46) t1.2 σ) mt_X13_has vr_X13_has wd1746 cls_X13 at_X13 rfl ⟨rfl, rfl, Nat.le_of_ble_eq_true rfl, Nat.le_of_ble_eq_true rfl⟩ rfl (by decide) dX13_slack_18 (kP ?_)
    refine x_join (fun J => ∀ q7 : Int, WO X Qf WW σ 43 [(0, .ref (xqa (xXE X).2.2 184)), (1, iV q7), (2, iV t1.2)] [] (J q7)) ?_ ?_
    · intro q7
      refine x_inc C 2 (f := _) dX13_slack_43 rfl (by decide) (1) rfl (fun v8 => ?_)
      refine x_reL (L' := [(2, _), (0, _), (1, _)]) rfl ?_
      refine x_goto C 6 dX13_slack_46 rfl ?_
      refine x_pick [1, 2, 0] rfl ?_
      exact hr3 (q7, v8)
    · intro J5 hJ6
      refine x_if_eq C 43 (zI_bo (bo_X13_has _ _)) dX13_slack_21 rfl (fun c9 => x_op c9 ?_) (fun c9 => x_on c9 ?_)
      · refine x_pick [0, 1, 2] rfl ?_
        exact hJ6 t1.1
      · refine x_aload_n C 0 dX13_slack_24 rfl rfl ?_
        refine x_iload_n C 1 dX13_slack_25 rfl rfl ?_
        refine x_aload_n C 0 dX13_slack_26 rfl rfl ?_
        refine x_get (v := .ref (xqa (xXE X).2.2 209)) C 44 cls_X13 at_X13 (by decide) wd1546 rfl (xV_r (rt_X13_shopDue  _) rfl) dX13_slack_27 ?_
        refine x_iload_n C 2 dX13_slack_30 rfl rfl ?_
        refine x_iald C at_X13_shopDue rfl dX13_slack_31 (fun _ => ?_)
        refine x_aload_n C 0 dX13_slack_32 rfl rfl ?_
        refine x_get (v := .ref (xqa (xXE X).2.2 213)) C 51 cls_X13 at_X13 (by decide) wd1553 rfl (xV_r (rt_X13_arrives  _) rfl) dX13_slack_33 ?_
        refine x_iload_n C 2 dX13_slack_36 rfl rfl ?_
        refine x_iald C at_X13_arrives rfl dX13_slack_37 (fun _ => ?_)
        refine x_isub C dX13_slack_38 ?_
        refine x_callV C (ct_X13_lesser _ _ t1.1 ((σ 209 (zI t1.2).toNat) - (σ 213 (zI t1.2).toNat)) σ) mt_X13_lesser vr_X13_lesser wd1933 cls_X13 at_X13 rfl ⟨rfl, rfl, Nat.le_of_ble_eq_true rfl, Nat.le_of_ble_eq_true rfl⟩ rfl (by decide) dX13_slack_39 (kP ?_)
        refine x_letI (fun v10 => ?_)
        refine x_istore_n (L' := [(1, _), (0, _), (2, _)]) C dX13_slack_42 rfl (by decide) rfl ?_
        refine x_pick [1, 0, 2] rfl ?_
        exact hJ6 v10
theorem ct_X13_slack (l : Launch) (E : xE) (n : Nat) (σ : xS)   : xMet l E yX13_slack cX13_slack 3 (some .int) { frames := 1, cells := 0, slots := 0, locals := 22 } [.ref (xqa E.2.2 184)] WW WW σ (xrI (m_X13_slack n σ) σ) := by
  refine xMet.of0 (by decide) (Nat.le_of_ble_eq_true rfl) rfl rfl (fun X hE C => ?_)
  subst hE
  exact xMap (fun v => (some (iV v), σ)) (wk_X13_slack C (fun _ => rfl) )
theorem mt_X13_slack : xMth yX13_slack cX13_slack 3 (some .int) 0 := ⟨wd2224, wd164, ⟨by decide, by decide, rfl⟩⟩
theorem vr_X13_slack : xVir yX13_slack := ⟨wd2223, wd146⟩
