def m_X7_parse (n : Nat) (p2 : Int) (k3 : Nat) (σ : xS) : Option (Int × xS) :=
  xlet (xput σ 2 7 0) fun s1 => xlet (xput s1 2 8 (-1)) fun s2 => xlet (xput s2 2 3 0) fun s3 => xlet (xput s3 2 4 0) fun s4 => xlet (xput s4 2 5 0) fun s5 => xlet (xput s5 2 6 0) fun s6 => (m_X1_clear k3 s6).bind fun s7 => (m_X10_begin n p2 s7).bind fun s8 => loopF (fun rec10 (t9 : Int × xS) => xj (fun (q15 : Unit) => if (zI (t9.2 2 7)) = 0 then (m_X9_explore n (k3 + 39) (t9.2 k3 8) (-1) t9.2).bind fun s17 => some (t9.1, s17) else some ((-1), t9.2)) fun J13 => if (zI (t9.2 3 2)) = 0 then J13 () else if (zI (t9.2 2 7)) = 0 then if 1600 ≤ (zI t9.1) then J13 () else (m_X7_readStatement n k3 t9.2).bind fun s21 => xlet (t9.1 + 1) fun v22 => rec10 (v22, s21) else J13 ()) n (0, s8)
set_option maxHeartbeats 4000000 in
set_option maxRecDepth 100000 in
theorem wk_X7_parse {X : xX} {Qf : (Int × xS) → State → Prop} {n : Nat} {p2 : Int} {k3 : Nat} {σ : xS} (C : xCx X cX7_parse "BakeryNight$Parser" (some .int) { frames := 10, cells := 0, slots := 0, locals := 223 } 5) (hQ : ∀ v τ, Qf (v, τ) = xQf X WW (some (iV v), τ)) (hk3 : isBk k3) : WO X Qf WW σ 0 [(0, .ref (xqa (xXE X).2.2 2)), (1, .ref (xqa (xXE X).2.2 1)), (2, iV p2), (3, .ref (xqa (xXE X).2.2 k3))] [] (m_X7_parse n p2 k3 σ) := by
  unfold m_X7_parse
  refine x_aload_n C 0 dX7_parse_0 rfl rfl ?_
  refine x_iconst C (0) dX7_parse_1 rfl ?_
  refine x_put C 7 0 cls_X7 at_X7 (by decide) wd126 rfl rfl rfl rfl (xV_pI rfl) dX7_parse_2 ?_
  refine x_letS (fun s1 => ?_)
  refine x_aload_n C 0 dX7_parse_5 rfl rfl ?_
  refine x_iconst C (-1) dX7_parse_6 rfl ?_
  refine x_put C 8 (-1) cls_X7 at_X7 (by decide) wd128 rfl rfl rfl rfl (xV_pI rfl) dX7_parse_7 ?_
  refine x_letS (fun s2 => ?_)
  refine x_aload_n C 0 dX7_parse_10 rfl rfl ?_
  refine x_iconst C (0) dX7_parse_11 rfl ?_
  refine x_put C 3 0 cls_X7 at_X7 (by decide) wd122 rfl rfl (xnb (Or.inl rfl)) (xfb (Or.inl rfl)) (xV_pI rfl) dX7_parse_12 ?_
  refine x_letS (fun s3 => ?_)
  refine x_aload_n C 0 dX7_parse_15 rfl rfl ?_
  refine x_iconst C (0) dX7_parse_16 rfl ?_
  refine x_put C 4 0 cls_X7 at_X7 (by decide) wd123 rfl rfl (xnb (Or.inl rfl)) (xfb (Or.inl rfl)) (xV_pI rfl) dX7_parse_17 ?_
  refine x_letS (fun s4 => ?_)
  refine x_aload_n C 0 dX7_parse_20 rfl rfl ?_
  refine x_iconst C (0) dX7_parse_21 rfl ?_
  refine x_put C 5 0 cls_X7 at_X7 (by decide) wd124 rfl rfl (xnb (Or.inl rfl)) (xfb (Or.inl rfl)) (xV_pI rfl) dX7_parse_22 ?_
  refine x_letS (fun s5 => ?_)
  refine x_aload_n C 0 dX7_parse_25 rfl rfl ?_
  refine x_iconst C (0) dX7_parse_26 rfl ?_
  refine x_put C 6 0 cls_X7 at_X7 (by decide) wd125 rfl rfl (xnb (Or.inl rfl)) (xfb (Or.inl rfl)) (xV_pI rfl) dX7_parse_27 ?_
  refine x_letS (fun s6 => ?_)
  refine x_aload_n C 3 dX7_parse_30 rfl rfl ?_
  refine x_callV C (ct_X1_clear _ _ k3 s6 hk3) mt_X1_clear vr_X1_clear wd937 cls_X1 (at_X1 hk3) rfl ⟨rfl, rfl, Nat.le_of_ble_eq_true rfl, Nat.le_of_ble_eq_true rfl⟩ rfl (by decide) dX7_parse_31 (kV (fun s7 => ?_))
  refine x_aload_n C 0 dX7_parse_34 rfl rfl ?_
  refine x_get (v := .ref (xqa (xXE X).2.2 3)) C 0 cls_X7 at_X7 (by decide) wd119 rfl (xV_r (rt_X7_scanner  _) rfl) dX7_parse_35 ?_
  refine x_aload_n C 1 dX7_parse_38 rfl rfl ?_
  refine x_iload_n C 2 dX7_parse_39 rfl rfl ?_
  refine x_callV C (ct_X10_begin _ _ n p2 s7) mt_X10_begin vr_X10_begin wd938 cls_X10 at_X10 rfl ⟨rfl, rfl, Nat.le_of_ble_eq_true rfl, Nat.le_of_ble_eq_true rfl⟩ rfl (by decide) dX7_parse_40 (kV (fun s8 => ?_))
  refine x_iconst C (0) dX7_parse_43 rfl ?_
  refine x_istore (L' := [(4, _), (0, _), (1, _), (2, _), (3, _)]) C dX7_parse_44 (by decide) rfl ?_
  refine x_pick [1, 4, 0] rfl ?_
  refine x_loop (fun t9 : Int × xS => t9.2) (fun t9 : Int × xS => [(0, .ref (xqa (xXE X).2.2 2)), (3, .ref (xqa (xXE X).2.2 k3)), (4, iV t9.1)]) (fun rec10 hr11 t9 => ?_) n (0, s8)
  refine x_aload_n C 0 dX7_parse_46 rfl rfl ?_
  refine x_get (v := .ref (xqa (xXE X).2.2 3)) C 0 cls_X7 at_X7 (by decide) wd119 rfl (xV_r (rt_X7_scanner  _) rfl) dX7_parse_47 ?_
  refine x_get (v := iV (t9.2 3 2)) C 2 cls_X10 at_X10 (by decide) wd102 rfl rfl dX7_parse_50 ?_
  refine x_join (fun J => ∀ q15 : Unit, WO X Qf WW t9.2 82 [(0, .ref (xqa (xXE X).2.2 2)), (3, .ref (xqa (xXE X).2.2 k3)), (4, iV t9.1)] [] (J q15)) ?_ ?_
  · intro q15
    refine x_aload_n C 0 dX7_parse_82 rfl rfl ?_
    refine x_get (v := iV (t9.2 2 7)) C 7 cls_X7 at_X7 (by decide) wd126 rfl rfl dX7_parse_83 ?_
    refine x_if_eq C 91 rfl dX7_parse_86 rfl (fun c16 => x_op c16 ?_) (fun c16 => x_on c16 ?_)
    · refine x_aload_n C 1 dX7_parse_91 rfl rfl ?_
      refine x_get (v := .ref (xqa (xXE X).2.2 (k3 + 39))) C 9 cls_X1 (at_X1 hk3) (by decide) wd368 rfl (xV_r (rt_X1_roads hk3 _) rfl) dX7_parse_92 ?_
      refine x_aload_n C 1 dX7_parse_95 rfl rfl ?_
      refine x_get (v := iV (t9.2 k3 8)) C 8 cls_X1 (at_X1 hk3) (by decide) wd365 rfl rfl dX7_parse_96 ?_
      refine x_iconst C (-1) dX7_parse_99 rfl ?_
      refine x_callV C (ct_X9_explore _ _ n (k3 + 39) (t9.2 k3 8) (-1) t9.2 (rd_bk hk3)) mt_X9_explore vr_X9_explore wd1090 cls_X9 (at_X9 (rd_bk hk3)) rfl ⟨rfl, rfl, Nat.le_of_ble_eq_true rfl, Nat.le_of_ble_eq_true rfl⟩ rfl (by decide) dX7_parse_100 (kV (fun s17 => ?_))
      refine x_iload C 2 dX7_parse_103 rfl ?_
      exact x_iretQ C (hQ _ _) rfl dX7_parse_105
    · refine x_iconst C (-1) dX7_parse_89 rfl ?_
      exact x_iretQ C (hQ _ _) rfl dX7_parse_90
  · intro J13 hJ14
    refine x_if_eq C 82 rfl dX7_parse_53 rfl (fun c18 => x_op c18 ?_) (fun c18 => x_on c18 ?_)
    · refine x_pick [0, 1, 2] rfl ?_
      exact hJ14 ()
    · refine x_aload_n C 0 dX7_parse_56 rfl rfl ?_
      refine x_get (v := iV (t9.2 2 7)) C 7 cls_X7 at_X7 (by decide) wd126 rfl rfl dX7_parse_57 ?_
      refine x_if_ne C 82 rfl dX7_parse_60 rfl (fun c19 => x_on c19 ?_) (fun c19 => x_op c19 ?_)
      · refine x_pick [0, 1, 2] rfl ?_
        exact hJ14 ()
      · refine x_iload C 2 dX7_parse_63 rfl ?_
        refine x_sipush C (1600) dX7_parse_65 rfl ?_
        refine x_icmp_ge C 82 rfl (zIl _ rfl) dX7_parse_68 rfl (fun c20 => x_op c20 ?_) (fun c20 => x_on c20 ?_)
        · refine x_pick [0, 1, 2] rfl ?_
          exact hJ14 ()
        · refine x_aload_n C 0 dX7_parse_71 rfl rfl ?_
          refine x_aload_n C 1 dX7_parse_72 rfl rfl ?_
          refine x_callV C (ct_X7_readStatement _ _ n k3 t9.2 hk3) mt_X7_readStatement vr_X7_readStatement wd950 cls_X7 at_X7 rfl ⟨rfl, rfl, Nat.le_of_ble_eq_true rfl, Nat.le_of_ble_eq_true rfl⟩ rfl (by decide) dX7_parse_73 (kV (fun s21 => ?_))
          refine x_inc C 2 (f := _) dX7_parse_76 rfl (by decide) (1) rfl (fun v22 => ?_)
          refine x_reL (L' := [(4, _), (0, _), (3, _)]) rfl ?_
          refine x_goto C 46 dX7_parse_79 rfl ?_
          refine x_pick [1, 2, 0] rfl ?_
          exact hr11 (v22, s21)
theorem ct_X7_parse (l : Launch) (E : xE) (n : Nat) (p2 : Int) (k3 : Nat) (σ : xS) (hk3 : isBk k3)  : xMet l E yX7_parse cX7_parse 5 (some .int) { frames := 10, cells := 0, slots := 0, locals := 223 } [.ref (xqa E.2.2 2), .ref (xqa E.2.2 1), iV p2, .ref (xqa E.2.2 k3)] WW WW σ (xrS (m_X7_parse n p2 k3 σ)) := by
  refine xMet.of0 (by decide) (Nat.le_of_ble_eq_true rfl) rfl rfl (fun X hE C => ?_)
  subst hE
  exact xMap (fun q => (some (iV q.1), q.2)) (wk_X7_parse C (fun _ _ => rfl) hk3)
theorem mt_X7_parse : xMth yX7_parse cX7_parse 5 (some .int) 3 := ⟨wd936, wd50, ⟨by decide, by decide, rfl⟩⟩
theorem vr_X7_parse : xVir yX7_parse := ⟨wd934, wd935⟩
def m_X12_parseBakery (n : Nat) (σ : xS) : Option (Int × xS) :=
  xbS (m_X7_parse n (σ 0 1) (bkA (σ 0 4)) σ) fun v2 s1 => xlet (xput s1 0 1 0) fun s3 => if (zI v2) = (-1) then some ((-1), s3) else xlet (xput s3 0 3 (s3 0 4)) fun s5 => xlet (xput s5 0 4 (s3 0 3)) fun s6 => (m_X3_forget s6).bind fun s7 => (m_X12_dropNight s7).bind fun s8 => some (v2, s8)
set_option maxHeartbeats 4000000 in
set_option maxRecDepth 100000 in
theorem wk_X12_parseBakery {X : xX} {Qf : (Int × xS) → State → Prop} {n : Nat} {σ : xS} (C : xCx X cX12_parseBakery "BakeryNight" (some .int) { frames := 11, cells := 0, slots := 0, locals := 247 } 3) (hQ : ∀ v τ, Qf (v, τ) = xQf X WW (some (iV v), τ))  : WO X Qf WW σ 0 [(0, .ref (xqa (xXE X).2.2 0))] [] (m_X12_parseBakery n σ) := by
  unfold m_X12_parseBakery
  refine x_aload_n C 0 dX12_parseBakery_0 rfl rfl ?_
  refine x_get (v := .ref (xqa (xXE X).2.2 2)) C 2 cls_X12 at_X12 (by decide) wd569 rfl (xV_r (rt_X12_parser  _) rfl) dX12_parseBakery_1 ?_
  refine x_aload_n C 0 dX12_parseBakery_4 rfl rfl ?_
  refine x_get (v := .ref (xqa (xXE X).2.2 1)) C 0 cls_X12 at_X12 (by decide) wd567 rfl (xV_r (rt_X12_buffer  _) rfl) dX12_parseBakery_5 ?_
  refine x_aload_n C 0 dX12_parseBakery_8 rfl rfl ?_
  refine x_get (v := iV (σ 0 1)) C 1 cls_X12 at_X12 (by decide) wd568 rfl rfl dX12_parseBakery_9 ?_
  refine x_aload_n C 0 dX12_parseBakery_12 rfl rfl ?_
  refine x_get (v := .ref (xqa (xXE X).2.2 (bkA (σ 0 4)))) C 4 cls_X12 at_X12 (by decide) wd571 rfl rfl dX12_parseBakery_13 ?_
  refine x_callV C (ct_X7_parse _ _ n (σ 0 1) (bkA (σ 0 4)) σ (bk_A (σ 0 4))) mt_X7_parse vr_X7_parse wd933 cls_X7 at_X7 rfl ⟨rfl, rfl, Nat.le_of_ble_eq_true rfl, Nat.le_of_ble_eq_true rfl⟩ rfl (by decide) dX12_parseBakery_16 (kS (fun v2 s1 => ?_))
  refine x_istore_n (L' := [(1, _), (0, _)]) C dX12_parseBakery_19 rfl (by decide) rfl ?_
  refine x_aload_n C 1 dX12_parseBakery_20 rfl rfl ?_
  refine x_iconst C (0) dX12_parseBakery_21 rfl ?_
  refine x_put C 1 0 cls_X12 at_X12 (by decide) wd568 rfl rfl rfl rfl (xV_pI rfl) dX12_parseBakery_22 ?_
  refine x_letS (fun s3 => ?_)
  refine x_iload_n C 0 dX12_parseBakery_25 rfl rfl ?_
  refine x_iconst C (-1) dX12_parseBakery_26 rfl ?_
  refine x_icmp_ne C 32 rfl (zIl _ rfl) dX12_parseBakery_27 rfl (fun c4 => x_on c4 ?_) (fun c4 => x_op c4 ?_)
  · refine x_aload_n C 1 dX12_parseBakery_32 rfl rfl ?_
    refine x_get (v := .ref (xqa (xXE X).2.2 (bkA (s3 0 3)))) C 3 cls_X12 at_X12 (by decide) wd570 rfl rfl dX12_parseBakery_33 ?_
    refine x_astore_n (L' := [(2, _), (1, _), (0, _)]) C dX12_parseBakery_36 rfl (by decide) rfl ?_
    refine x_aload_n C 2 dX12_parseBakery_37 rfl rfl ?_
    refine x_aload_n C 2 dX12_parseBakery_38 rfl rfl ?_
    refine x_get (v := .ref (xqa (xXE X).2.2 (bkA (s3 0 4)))) C 4 cls_X12 at_X12 (by decide) wd571 rfl rfl dX12_parseBakery_39 ?_
    refine x_put C 3 (s3 0 4) cls_X12 at_X12 (by decide) wd570 rfl rfl rfl rfl rfl dX12_parseBakery_42 ?_
    refine x_letS (fun s5 => ?_)
    refine x_aload_n C 2 dX12_parseBakery_45 rfl rfl ?_
    refine x_aload_n C 0 dX12_parseBakery_46 rfl rfl ?_
    refine x_put C 4 (s3 0 3) cls_X12 at_X12 (by decide) wd571 rfl rfl rfl rfl rfl dX12_parseBakery_47 ?_
    refine x_letS (fun s6 => ?_)
    refine x_aload_n C 2 dX12_parseBakery_50 rfl rfl ?_
    refine x_get (v := .ref (xqa (xXE X).2.2 114)) C 5 cls_X12 at_X12 (by decide) wd572 rfl (xV_r (rt_X12_history  _) rfl) dX12_parseBakery_51 ?_
    refine x_callV C (ct_X3_forget _ _ s6) mt_X3_forget vr_X3_forget wd1091 cls_X3 at_X3 rfl ⟨rfl, rfl, Nat.le_of_ble_eq_true rfl, Nat.le_of_ble_eq_true rfl⟩ rfl (by decide) dX12_parseBakery_54 (kV (fun s7 => ?_))
    refine x_aload_n C 2 dX12_parseBakery_57 rfl rfl ?_
    refine x_callV C (ct_X12_dropNight _ _ s7) mt_X12_dropNight vr_X12_dropNight wd850 cls_X12 at_X12 rfl ⟨rfl, rfl, Nat.le_of_ble_eq_true rfl, Nat.le_of_ble_eq_true rfl⟩ rfl (by decide) dX12_parseBakery_58 (kV (fun s8 => ?_))
    refine x_iload_n C 1 dX12_parseBakery_61 rfl rfl ?_
    exact x_iretQ C (hQ _ _) rfl dX12_parseBakery_62
  · refine x_iconst C (-1) dX12_parseBakery_30 rfl ?_
    exact x_iretQ C (hQ _ _) rfl dX12_parseBakery_31
theorem ct_X12_parseBakery (l : Launch) (E : xE) (n : Nat) (σ : xS)   : xMet l E yX12_parseBakery cX12_parseBakery 3 (some .int) { frames := 11, cells := 0, slots := 0, locals := 247 } [.ref (xqa E.2.2 0)] WW WW σ (xrS (m_X12_parseBakery n σ)) := by
  refine xMet.of0 (by decide) (Nat.le_of_ble_eq_true rfl) rfl rfl (fun X hE C => ?_)
  subst hE
  exact xMap (fun q => (some (iV q.1), q.2)) (wk_X12_parseBakery C (fun _ _ => rfl) )
theorem mt_X12_parseBakery : xMth yX12_parseBakery cX12_parseBakery 3 (some .int) 0 := ⟨wd932, wd49, ⟨by decide, by decide, rfl⟩⟩
theorem vr_X12_parseBakery : xVir yX12_parseBakery := ⟨wd930, wd931⟩
def m_X12_batchDough (p1 : Int) (σ : xS) : Option Int :=
  if (zI (σ 0 8)) = 0 then none else if (m_X4_hasBatch 118 p1 σ) = 0 then none else xck (zI p1) 60 <| some (σ (118 + 1) (zI p1).toNat)
set_option maxHeartbeats 4000000 in
set_option maxRecDepth 100000 in
theorem wk_X12_batchDough {X : xX} {Qf : Int → State → Prop} {p1 : Int} {σ : xS} (C : xCx X cX12_batchDough "BakeryNight" (some .int) { frames := 1, cells := 0, slots := 0, locals := 21 } 2) (hQ : ∀ v, Qf v = xQf X WW (some (iV v), σ))  : WO X Qf WW σ 0 [(0, .ref (xqa (xXE X).2.2 0)), (1, iV p1)] [] (m_X12_batchDough p1 σ) := by
  unfold m_X12_batchDough
  refine x_aload_n C 0 dX12_batchDough_0 rfl rfl ?_
  refine x_get (v := iV (σ 0 8)) C 8 cls_X12 at_X12 (by decide) wd575 rfl rfl dX12_batchDough_1 ?_
  refine x_if_ne C 17 rfl dX12_batchDough_4 rfl (fun c1 => x_on c1 ?_) (fun c1 => x_op c1 ?_)
  · refine x_aload_n C 0 dX12_batchDough_17 rfl rfl ?_
    refine x_get (v := .ref (xqa (xXE X).2.2 118)) C 6 cls_X12 at_X12 (by decide) wd573 rfl (xV_r (rt_X12_night  _) rfl) dX12_batchDough_18 ?_
    refine x_iload_n C 1 dX12_batchDough_21 rfl rfl ?_
    refine x_callV C (ct_X4_hasBatch _ _ 118 p1 σ (by first | exact Or.inl rfl | exact Or.inr rfl)) mt_X4_hasBatch vr_X4_hasBatch wd1419 cls_X4 (at_X4 (by first | exact Or.inl rfl | exact Or.inr rfl)) rfl ⟨rfl, rfl, Nat.le_of_ble_eq_true rfl, Nat.le_of_ble_eq_true rfl⟩ rfl (by decide) dX12_batchDough_22 (kP ?_)
    refine x_if_ne C 38 (zI_bo (bo_X4_hasBatch _ _ _)) dX12_batchDough_25 rfl (fun c2 => x_on c2 ?_) (fun c2 => x_op c2 ?_)
    · refine x_aload_n C 0 dX12_batchDough_38 rfl rfl ?_
      refine x_get (v := .ref (xqa (xXE X).2.2 118)) C 6 cls_X12 at_X12 (by decide) wd573 rfl (xV_r (rt_X12_night  _) rfl) dX12_batchDough_39 ?_
      refine x_get (v := .ref (xqa (xXE X).2.2 (118 + 1))) C 3 cls_X4 (at_X4 (by first | exact Or.inl rfl | exact Or.inr rfl)) (by decide) wd450 rfl (xV_r (rt_X4_dough (by first | exact Or.inl rfl | exact Or.inr rfl) _) rfl) dX12_batchDough_42 ?_
      refine x_iload_n C 1 dX12_batchDough_45 rfl rfl ?_
      refine x_iald C (at_X4_dough (by first | exact Or.inl rfl | exact Or.inr rfl)) rfl dX12_batchDough_46 (fun _ => ?_)
      exact x_iretQ C (hQ _) rfl dX12_batchDough_47
    · exact x_none
  · exact x_none
theorem ct_X12_batchDough (l : Launch) (E : xE) (p1 : Int) (σ : xS)   : xMet l E yX12_batchDough cX12_batchDough 2 (some .int) { frames := 1, cells := 0, slots := 0, locals := 21 } [.ref (xqa E.2.2 0), iV p1] WW WW σ (xrI (m_X12_batchDough p1 σ) σ) := by
  refine xMet.of0 (by decide) (Nat.le_of_ble_eq_true rfl) rfl rfl (fun X hE C => ?_)
  subst hE
  exact xMap (fun v => (some (iV v), σ)) (wk_X12_batchDough C (fun _ => rfl) )
theorem mt_X12_batchDough : xMth yX12_batchDough cX12_batchDough 2 (some .int) 1 := ⟨wd1482, wd49, ⟨by decide, by decide, rfl⟩⟩
theorem vr_X12_batchDough : xVir yX12_batchDough := ⟨wd1480, wd1481⟩
def m_X12_stageMinute (p1 : Int) (p2 : Int) (σ : xS) : Option Int :=
  if (zI (σ 0 8)) = 0 then none else if (m_X4_hasBatch 118 p1 σ) = 0 then none else if (zI p2) < 0 then none else if (zI p2) < 6 then xck (zI p2) 6 <| xck (zI p1) 60 <| some (σ (118 + 4 + (zI p2).toNat) (zI p1).toNat) else none
set_option maxHeartbeats 4000000 in
set_option maxRecDepth 100000 in
theorem wk_X12_stageMinute {X : xX} {Qf : Int → State → Prop} {p1 : Int} {p2 : Int} {σ : xS} (C : xCx X cX12_stageMinute "BakeryNight" (some .int) { frames := 1, cells := 0, slots := 0, locals := 21 } 3) (hQ : ∀ v, Qf v = xQf X WW (some (iV v), σ))  : WO X Qf WW σ 0 [(0, .ref (xqa (xXE X).2.2 0)), (1, iV p1), (2, iV p2)] [] (m_X12_stageMinute p1 p2 σ) := by
  unfold m_X12_stageMinute
  refine x_aload_n C 0 dX12_stageMinute_0 rfl rfl ?_
  refine x_get (v := iV (σ 0 8)) C 8 cls_X12 at_X12 (by decide) wd575 rfl rfl dX12_stageMinute_1 ?_
  refine x_if_ne C 17 rfl dX12_stageMinute_4 rfl (fun c1 => x_on c1 ?_) (fun c1 => x_op c1 ?_)
  · refine x_aload_n C 0 dX12_stageMinute_17 rfl rfl ?_
    refine x_get (v := .ref (xqa (xXE X).2.2 118)) C 6 cls_X12 at_X12 (by decide) wd573 rfl (xV_r (rt_X12_night  _) rfl) dX12_stageMinute_18 ?_
    refine x_iload_n C 1 dX12_stageMinute_21 rfl rfl ?_
    refine x_callV C (ct_X4_hasBatch _ _ 118 p1 σ (by first | exact Or.inl rfl | exact Or.inr rfl)) mt_X4_hasBatch vr_X4_hasBatch wd1419 cls_X4 (at_X4 (by first | exact Or.inl rfl | exact Or.inr rfl)) rfl ⟨rfl, rfl, Nat.le_of_ble_eq_true rfl, Nat.le_of_ble_eq_true rfl⟩ rfl (by decide) dX12_stageMinute_22 (kP ?_)
    refine x_if_ne C 38 (zI_bo (bo_X4_hasBatch _ _ _)) dX12_stageMinute_25 rfl (fun c2 => x_on c2 ?_) (fun c2 => x_op c2 ?_)
    · refine x_iload_n C 2 dX12_stageMinute_38 rfl rfl ?_
      refine x_if_lt C 48 rfl dX12_stageMinute_39 rfl (fun c3 => x_op c3 ?_) (fun c3 => x_on c3 ?_)
      · exact x_none
      · refine x_iload_n C 2 dX12_stageMinute_42 rfl rfl ?_
        refine x_bipush C (6) dX12_stageMinute_43 rfl ?_
        refine x_icmp_lt C 58 rfl (zIl _ rfl) dX12_stageMinute_45 rfl (fun c4 => x_op c4 ?_) (fun c4 => x_on c4 ?_)
        · refine x_aload_n C 0 dX12_stageMinute_58 rfl rfl ?_
          refine x_get (v := .ref (xqa (xXE X).2.2 118)) C 6 cls_X12 at_X12 (by decide) wd573 rfl (xV_r (rt_X12_night  _) rfl) dX12_stageMinute_59 ?_
          refine x_get (v := .ref (xqa (xXE X).2.2 (118 + 3))) C 5 cls_X4 (at_X4 (by first | exact Or.inl rfl | exact Or.inr rfl)) (by decide) wd454 rfl (xV_r (rt_X4_begun (by first | exact Or.inl rfl | exact Or.inr rfl) _) rfl) dX12_stageMinute_62 ?_
          refine x_iload_n C 2 dX12_stageMinute_65 rfl rfl ?_
          refine x_aald C (at_X4_begun (by first | exact Or.inl rfl | exact Or.inr rfl)) (by decide) rfl (fun h5 => rl_X4_begun (by first | exact Or.inl rfl | exact Or.inr rfl) _ h5) dX12_stageMinute_66 (fun h5 => ?_)
          refine x_iload_n C 1 dX12_stageMinute_67 rfl rfl ?_
          refine x_iald C (el_X4_begun (by first | exact Or.inl rfl | exact Or.inr rfl) h5) rfl dX12_stageMinute_68 (fun _ => ?_)
          exact x_iretQ C (hQ _) rfl dX12_stageMinute_69
        · exact x_none
    · exact x_none
  · exact x_none
theorem ct_X12_stageMinute (l : Launch) (E : xE) (p1 : Int) (p2 : Int) (σ : xS)   : xMet l E yX12_stageMinute cX12_stageMinute 3 (some .int) { frames := 1, cells := 0, slots := 0, locals := 21 } [.ref (xqa E.2.2 0), iV p1, iV p2] WW WW σ (xrI (m_X12_stageMinute p1 p2 σ) σ) := by
  refine xMet.of0 (by decide) (Nat.le_of_ble_eq_true rfl) rfl rfl (fun X hE C => ?_)
  subst hE
  exact xMap (fun v => (some (iV v), σ)) (wk_X12_stageMinute C (fun _ => rfl) )
theorem mt_X12_stageMinute : xMth yX12_stageMinute cX12_stageMinute 3 (some .int) 2 := ⟨wd1352, wd49, ⟨by decide, by decide, rfl⟩⟩
theorem vr_X12_stageMinute : xVir yX12_stageMinute := ⟨wd1350, wd1351⟩
def m_X12_ovenOf (p1 : Int) (σ : xS) : Option Int :=
  if (zI (σ 0 8)) = 0 then none else if (m_X4_hasBatch 118 p1 σ) = 0 then none else xck (zI p1) 60 <| some (σ (118 + 2) (zI p1).toNat)
set_option maxHeartbeats 4000000 in
set_option maxRecDepth 100000 in
theorem wk_X12_ovenOf {X : xX} {Qf : Int → State → Prop} {p1 : Int} {σ : xS} (C : xCx X cX12_ovenOf "BakeryNight" (some .int) { frames := 1, cells := 0, slots := 0, locals := 21 } 2) (hQ : ∀ v, Qf v = xQf X WW (some (iV v), σ))  : WO X Qf WW σ 0 [(0, .ref (xqa (xXE X).2.2 0)), (1, iV p1)] [] (m_X12_ovenOf p1 σ) := by
  unfold m_X12_ovenOf
  refine x_aload_n C 0 dX12_ovenOf_0 rfl rfl ?_
  refine x_get (v := iV (σ 0 8)) C 8 cls_X12 at_X12 (by decide) wd575 rfl rfl dX12_ovenOf_1 ?_
  refine x_if_ne C 17 rfl dX12_ovenOf_4 rfl (fun c1 => x_on c1 ?_) (fun c1 => x_op c1 ?_)
  · refine x_aload_n C 0 dX12_ovenOf_17 rfl rfl ?_
    refine x_get (v := .ref (xqa (xXE X).2.2 118)) C 6 cls_X12 at_X12 (by decide) wd573 rfl (xV_r (rt_X12_night  _) rfl) dX12_ovenOf_18 ?_
    refine x_iload_n C 1 dX12_ovenOf_21 rfl rfl ?_
    refine x_callV C (ct_X4_hasBatch _ _ 118 p1 σ (by first | exact Or.inl rfl | exact Or.inr rfl)) mt_X4_hasBatch vr_X4_hasBatch wd1419 cls_X4 (at_X4 (by first | exact Or.inl rfl | exact Or.inr rfl)) rfl ⟨rfl, rfl, Nat.le_of_ble_eq_true rfl, Nat.le_of_ble_eq_true rfl⟩ rfl (by decide) dX12_ovenOf_22 (kP ?_)
    refine x_if_ne C 38 (zI_bo (bo_X4_hasBatch _ _ _)) dX12_ovenOf_25 rfl (fun c2 => x_on c2 ?_) (fun c2 => x_op c2 ?_)
    · refine x_aload_n C 0 dX12_ovenOf_38 rfl rfl ?_
      refine x_get (v := .ref (xqa (xXE X).2.2 118)) C 6 cls_X12 at_X12 (by decide) wd573 rfl (xV_r (rt_X12_night  _) rfl) dX12_ovenOf_39 ?_
      refine x_get (v := .ref (xqa (xXE X).2.2 (118 + 2))) C 4 cls_X4 (at_X4 (by first | exact Or.inl rfl | exact Or.inr rfl)) (by decide) wd452 rfl (xV_r (rt_X4_oven (by first | exact Or.inl rfl | exact Or.inr rfl) _) rfl) dX12_ovenOf_42 ?_
      refine x_iload_n C 1 dX12_ovenOf_45 rfl rfl ?_
      refine x_iald C (at_X4_oven (by first | exact Or.inl rfl | exact Or.inr rfl)) rfl dX12_ovenOf_46 (fun _ => ?_)
      exact x_iretQ C (hQ _) rfl dX12_ovenOf_47
    · exact x_none
  · exact x_none
theorem ct_X12_ovenOf (l : Launch) (E : xE) (p1 : Int) (σ : xS)   : xMet l E yX12_ovenOf cX12_ovenOf 2 (some .int) { frames := 1, cells := 0, slots := 0, locals := 21 } [.ref (xqa E.2.2 0), iV p1] WW WW σ (xrI (m_X12_ovenOf p1 σ) σ) := by
  refine xMet.of0 (by decide) (Nat.le_of_ble_eq_true rfl) rfl rfl (fun X hE C => ?_)
  subst hE
  exact xMap (fun v => (some (iV v), σ)) (wk_X12_ovenOf C (fun _ => rfl) )
theorem mt_X12_ovenOf : xMth yX12_ovenOf cX12_ovenOf 2 (some .int) 1 := ⟨wd1443, wd49, ⟨by decide, by decide, rfl⟩⟩
theorem vr_X12_ovenOf : xVir yX12_ovenOf := ⟨wd1441, wd1442⟩
