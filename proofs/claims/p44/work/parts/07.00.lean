def m_J0_coder_7d493 (k0 : Nat) : Int := if (1 : Int) = 0 then 1 else 0
set_option maxHeartbeats 4000000 in
set_option maxRecDepth 100000 in
theorem wk_J0_coder_7d493 {X : xX} {Qf : Int → State → Prop} {k0 : Nat} {σ : xS} (C : xCx X cJ0_coder_7d493 "java/lang/String" (some .byte) { frames := 0, cells := 0, slots := 0, locals := 0 } 1) (hQ : ∀ v, Qf v = xQf X WW (some (iV v), σ)) (hk0 : k0 < 24) : WO X Qf WW σ 0 [(0, cR X 1 k0)] [] (some (m_J0_coder_7d493 k0)) := by
  refine x_gsCS C wd877 dJ0_coder_7d493_0 ?_
  refine x_if_eq C 13 (zIl _ rfl) dJ0_coder_7d493_3 rfl (fun c1 => ?_) (fun c1 => ?_)
  · refine x_iconst C (1) dJ0_coder_7d493_13 rfl ?_
    exact x_leafR (by unfold m_J0_coder_7d493; rw [if_pos c1]) (x_nretQ C (hQ _) rfl rfl dJ0_coder_7d493_14)
  · refine x_aload_n C 0 dJ0_coder_7d493_6 rfl rfl ?_
    refine x_scoder C hk0 wd1310 dJ0_coder_7d493_7 ?_
    refine x_goto C 14 dJ0_coder_7d493_10 rfl ?_
    exact x_leafR (by unfold m_J0_coder_7d493; rw [if_neg c1]) (x_nretQ C (hQ _) rfl rfl dJ0_coder_7d493_14)
theorem ct_J0_coder_7d493 (l : Launch) (E : xE) (k0 : Nat) (hk0 : k0 < 24) (σ : xS) : xMet l E yJ0_coder_7d493 cJ0_coder_7d493 1 (some .byte) { frames := 0, cells := 0, slots := 0, locals := 0 } [cRE E 1 k0] WW WW σ (some (some (iV (m_J0_coder_7d493 k0)), σ)) := by
  refine xMet.of0 (by decide) (Nat.le_of_ble_eq_true rfl) rfl rfl (fun X hE C => ?_)
  subst hE
  exact xMap (fun v => (some (iV v), σ)) (wk_J0_coder_7d493 C (fun _ => rfl) hk0)
theorem mt_J0_coder_7d493 : xMth yJ0_coder_7d493 cJ0_coder_7d493 1 (some .byte) 0 := ⟨wd876, wd67, ⟨by decide, by decide, rfl⟩⟩
theorem vr_J0_coder_7d493 : xVir yJ0_coder_7d493 := ⟨wd874, wd875⟩
def m_J0_length_8abf5 (k0 : Nat) : Int := zshr (sLen k0) (m_J0_coder_7d493 k0)
set_option maxHeartbeats 4000000 in
set_option maxRecDepth 100000 in
theorem wk_J0_length_8abf5 {X : xX} {Qf : Int → State → Prop} {k0 : Nat} {σ : xS} (C : xCx X cJ0_length_8abf5 "java/lang/String" (some .int) { frames := 1, cells := 0, slots := 0, locals := 20 } 1) (hQ : ∀ v, Qf v = xQf X WW (some (iV v), σ)) (hk0 : k0 < 24) : WO X Qf WW σ 0 [(0, cR X 1 k0)] [] (some (m_J0_length_8abf5 k0)) := by
  refine x_aload_n C 0 dJ0_length_8abf5_0 rfl rfl ?_
  refine x_svalue C hk0 wd1309 dJ0_length_8abf5_1 ?_
  refine x_alenB C hk0 dJ0_length_8abf5_4 ?_
  refine x_aload_n C 0 dJ0_length_8abf5_5 rfl rfl ?_
  refine x_callVs C (ct_J0_coder_7d493 _ _ k0 hk0 σ) mt_J0_coder_7d493 vr_J0_coder_7d493 wd873 hk0 rfl ⟨rfl, rfl, Nat.le_of_ble_eq_true rfl, Nat.le_of_ble_eq_true rfl⟩ rfl (Nat.le_of_ble_eq_true rfl) dJ0_length_8abf5_6 (kP ?_)
  refine x_ishr C dJ0_length_8abf5_9 ?_
  exact x_leafR rfl (x_iretQ C (hQ _) rfl dJ0_length_8abf5_10)
theorem ct_J0_length_8abf5 (l : Launch) (E : xE) (k0 : Nat) (hk0 : k0 < 24) (σ : xS) : xMet l E yJ0_length_8abf5 cJ0_length_8abf5 1 (some .int) { frames := 1, cells := 0, slots := 0, locals := 20 } [cRE E 1 k0] WW WW σ (some (some (iV (m_J0_length_8abf5 k0)), σ)) := by
  refine xMet.of0 (by decide) (Nat.le_of_ble_eq_true rfl) rfl rfl (fun X hE C => ?_)
  subst hE
  exact xMap (fun v => (some (iV v), σ)) (wk_J0_length_8abf5 C (fun _ => rfl) hk0)
theorem mt_J0_length_8abf5 : xMth yJ0_length_8abf5 cJ0_length_8abf5 1 (some .int) 0 := ⟨wd872, wd67, ⟨by decide, by decide, rfl⟩⟩
theorem vr_J0_length_8abf5 : xVir yJ0_length_8abf5 := ⟨wd870, wd871⟩
def m_J0_isLatin1_aae02 (k0 : Nat) : Int := if (1 : Int) = 0 then 0 else if (0 : Int) = 0 then 1 else 0
set_option maxHeartbeats 4000000 in
set_option maxRecDepth 100000 in
theorem wk_J0_isLatin1_aae02 {X : xX} {Qf : Int → State → Prop} {k0 : Nat} {σ : xS} (C : xCx X cJ0_isLatin1_aae02 "java/lang/String" (some .boolean) { frames := 0, cells := 0, slots := 0, locals := 0 } 1) (hQ : ∀ v, Qf v = xQf X WW (some (iV v), σ)) (hk0 : k0 < 24) : WO X Qf WW σ 0 [(0, cR X 1 k0)] [] (some (m_J0_isLatin1_aae02 k0)) := by
  refine x_gsCS C wd877 dJ0_isLatin1_aae02_0 ?_
  refine x_if_eq C 17 (zIl _ rfl) dJ0_isLatin1_aae02_3 rfl (fun c1 => ?_) (fun c1 => ?_)
  · refine x_iconst C (0) dJ0_isLatin1_aae02_17 rfl ?_
    exact x_leafR (by unfold m_J0_isLatin1_aae02; rw [if_pos c1]) (x_zretQ C (hQ _) rfl (Or.inl rfl) dJ0_isLatin1_aae02_18)
  · refine x_aload_n C 0 dJ0_isLatin1_aae02_6 rfl rfl ?_
    refine x_scoder C hk0 wd1310 dJ0_isLatin1_aae02_7 ?_
    refine x_if_ne C 17 (zIl _ rfl) dJ0_isLatin1_aae02_10 rfl (fun c2 => ?_) (fun c2 => ?_)
    · refine x_iconst C (0) dJ0_isLatin1_aae02_17 rfl ?_
      exact x_leafR (by unfold m_J0_isLatin1_aae02; rw [if_neg c1, if_neg c2]) (x_zretQ C (hQ _) rfl (Or.inl rfl) dJ0_isLatin1_aae02_18)
    · refine x_iconst C (1) dJ0_isLatin1_aae02_13 rfl ?_
      refine x_goto C 18 dJ0_isLatin1_aae02_14 rfl ?_
      exact x_leafR (by unfold m_J0_isLatin1_aae02; rw [if_neg c1, if_pos c2]) (x_zretQ C (hQ _) rfl (Or.inr rfl) dJ0_isLatin1_aae02_18)
theorem bo_J0_isLatin1_aae02 (k0 : Nat) : m_J0_isLatin1_aae02 k0 = 0 ∨ m_J0_isLatin1_aae02 k0 = 1 := by
  unfold m_J0_isLatin1_aae02
  repeat' split
  all_goals first | exact Or.inl rfl | exact Or.inr rfl
theorem ct_J0_isLatin1_aae02 (l : Launch) (E : xE) (k0 : Nat) (hk0 : k0 < 24) (σ : xS) : xMet l E yJ0_isLatin1_aae02 cJ0_isLatin1_aae02 1 (some .boolean) { frames := 0, cells := 0, slots := 0, locals := 0 } [cRE E 1 k0] WW WW σ (some (some (iV (m_J0_isLatin1_aae02 k0)), σ)) := by
  refine xMet.of0 (by decide) (Nat.le_of_ble_eq_true rfl) rfl rfl (fun X hE C => ?_)
  subst hE
  exact xMap (fun v => (some (iV v), σ)) (wk_J0_isLatin1_aae02 C (fun _ => rfl) hk0)
theorem mt_J0_isLatin1_aae02 : xMth yJ0_isLatin1_aae02 cJ0_isLatin1_aae02 1 (some .boolean) 0 := ⟨wd886, wd67, ⟨by decide, by decide, rfl⟩⟩
theorem vr_J0_isLatin1_aae02 : xVir yJ0_isLatin1_aae02 := ⟨wd884, wd885⟩
def m_J3_checkIndex_8e157 (p1 : Int) (p2 : Int) : Option Int :=
  if (zI p1) < 0 then none else if (zI p1) < (zI p2) then some p1 else none
set_option maxHeartbeats 4000000 in
set_option maxRecDepth 100000 in
theorem wk_J3_checkIndex_8e157 {X : xX} {Qf : Int → State → Prop} {p1 : Int} {p2 : Int} {σ : xS} (C : xCx X cJ3_checkIndex_8e157 "jdk/internal/util/Preconditions" (some .int) { frames := 0, cells := 0, slots := 0, locals := 0 } 3) (hQ : ∀ v, Qf v = xQf X WW (some (iV v), σ)) {u3 : Value} (hu3 : xNR u3) : WO X Qf WW σ 0 [(0, iV p1), (1, iV p2), (2, u3)] [] (m_J3_checkIndex_8e157 p1 p2) := by
  unfold m_J3_checkIndex_8e157
  refine x_iload_n C 0 dJ3_checkIndex_8e157_0 rfl rfl ?_
  refine x_if_lt C 9 rfl dJ3_checkIndex_8e157_1 rfl (fun c1 => x_op c1 ?_) (fun c1 => x_on c1 ?_)
  · exact x_none
  · refine x_iload_n C 0 dJ3_checkIndex_8e157_4 rfl rfl ?_
    refine x_iload_n C 1 dJ3_checkIndex_8e157_5 rfl rfl ?_
    refine x_icmp_lt C 16 rfl rfl dJ3_checkIndex_8e157_6 rfl (fun c2 => x_op c2 ?_) (fun c2 => x_on c2 ?_)
    · refine x_iload_n C 0 dJ3_checkIndex_8e157_16 rfl rfl ?_
      exact x_iretQ C (hQ _) rfl dJ3_checkIndex_8e157_17
    · exact x_none
theorem ct_J3_checkIndex_8e157 (l : Launch) (E : xE) (p1 : Int) (p2 : Int) {u3 : Value} (hu3 : xNR u3) (σ : xS) : xMet l E yJ3_checkIndex_8e157 cJ3_checkIndex_8e157 3 (some .int) { frames := 0, cells := 0, slots := 0, locals := 0 } [iV p1, iV p2, u3] WW WW σ (xrI (m_J3_checkIndex_8e157 p1 p2) σ) := by
  rcases hu3 with rfl | ⟨t, rfl⟩
  · refine xMet.of0 (by decide) (Nat.le_of_ble_eq_true rfl) rfl rfl (fun X hE C => ?_)
    subst hE
    exact xMap (fun v => (some (iV v), σ)) (wk_J3_checkIndex_8e157 C (fun _ => rfl) (Or.inl rfl))
  · refine xMet.of0 (by decide) (Nat.le_of_ble_eq_true rfl) rfl rfl (fun X hE C => ?_)
    subst hE
    exact xMap (fun v => (some (iV v), σ)) (wk_J3_checkIndex_8e157 C (fun _ => rfl) (Or.inr ⟨t, rfl⟩))
theorem mt_J3_checkIndex_8e157 : xMth yJ3_checkIndex_8e157 cJ3_checkIndex_8e157 3 (some .int) 3 := ⟨wd897, wd70, ⟨by decide, by decide, rfl⟩⟩
theorem st_J3_checkIndex_8e157 : Cond.static yJ3_checkIndex_8e157 ∈ GW := wd896
def m_J0_checkIndex_df160 (p1 : Int) (p2 : Int) : Option Unit :=
  (m_J3_checkIndex_8e157 p1 p2).bind fun v2 => some ()
set_option maxHeartbeats 4000000 in
set_option maxRecDepth 100000 in
theorem wk_J0_checkIndex_df160 {X : xX} {Qf : Unit → State → Prop} {p1 : Int} {p2 : Int} {σ : xS} (C : xCx X cJ0_checkIndex_df160 "java/lang/String" none { frames := 1, cells := 0, slots := 0, locals := 22 } 2) (hQ : ∀ u, Qf u = xQf X WW (none, σ))  : WO X Qf WW σ 0 [(0, iV p1), (1, iV p2)] [] (m_J0_checkIndex_df160 p1 p2) := by
  unfold m_J0_checkIndex_df160
  refine x_iload_n C 0 dJ0_checkIndex_df160_0 rfl rfl ?_
  refine x_iload_n C 1 dJ0_checkIndex_df160_1 rfl rfl ?_
  refine x_gsq C wd893 dJ0_checkIndex_df160_2 (fun u1 hu1 => ?_)
  refine x_callS C (ct_J3_checkIndex_8e157 _ _ p1 p2 hu1 σ) mt_J3_checkIndex_8e157 st_J3_checkIndex_8e157 wd895 rfl ⟨rfl, rfl, Nat.le_of_ble_eq_true rfl, Nat.le_of_ble_eq_true rfl⟩ rfl (by decide) dJ0_checkIndex_df160_5 (kI (fun v2 => ?_))
  refine x_pop C dJ0_checkIndex_df160_8 rfl ?_
  exact x_vretQ C (hQ _) rfl dJ0_checkIndex_df160_9
theorem ct_J0_checkIndex_df160 (l : Launch) (E : xE) (p1 : Int) (p2 : Int)  (σ : xS) : xMet l E yJ0_checkIndex_df160 cJ0_checkIndex_df160 2 none { frames := 1, cells := 0, slots := 0, locals := 22 } [iV p1, iV p2] WW WW σ (xrU (m_J0_checkIndex_df160 p1 p2) σ) := by
  refine xMet.of0 (by decide) (Nat.le_of_ble_eq_true rfl) rfl rfl (fun X hE C => ?_)
  subst hE
  exact xMap (fun _ => (none, σ)) (wk_J0_checkIndex_df160 C (fun _ => rfl) )
theorem mt_J0_checkIndex_df160 : xMth yJ0_checkIndex_df160 cJ0_checkIndex_df160 2 none 2 := ⟨wd892, wd67, ⟨by decide, by decide, rfl⟩⟩
theorem st_J0_checkIndex_df160 : Cond.static yJ0_checkIndex_df160 ∈ GW := wd891
def m_J1_charAt_3b067 (k1 : Nat) (p2 : Int) : Option Int :=
  (m_J0_checkIndex_df160 p2 (sLen k1)).bind fun v1 => xcki (zI p2) (sLen k1) <| xrn (zi2c (zand (sByt k1 (zI p2).toNat) 255)) (some (zi2c (zand (sByt k1 (zI p2).toNat) 255)))
set_option maxHeartbeats 4000000 in
set_option maxRecDepth 100000 in
theorem wk_J1_charAt_3b067 {X : xX} {Qf : Int → State → Prop} {k1 : Nat} {p2 : Int} {σ : xS} (C : xCx X cJ1_charAt_3b067 "java/lang/StringLatin1" (some .char) { frames := 2, cells := 0, slots := 0, locals := 43 } 2) (hQ : ∀ v, Qf v = xQf X WW (some (iV v), σ)) (hk1 : k1 < 24) : WO X Qf WW σ 0 [(0, cR X 2 k1), (1, iV p2)] [] (m_J1_charAt_3b067 k1 p2) := by
  unfold m_J1_charAt_3b067
  refine x_iload_n C 1 dJ1_charAt_3b067_0 rfl rfl ?_
  refine x_aload_n C 0 dJ1_charAt_3b067_1 rfl rfl ?_
  refine x_alenB C hk1 dJ1_charAt_3b067_2 ?_
  refine x_callS C (ct_J0_checkIndex_df160 _ _ p2 (sLen k1) σ) mt_J0_checkIndex_df160 st_J0_checkIndex_df160 wd890 rfl ⟨rfl, rfl, Nat.le_of_ble_eq_true rfl, Nat.le_of_ble_eq_true rfl⟩ rfl (by decide) dJ1_charAt_3b067_3 (kU (fun v1 => ?_))
  refine x_aload_n C 0 dJ1_charAt_3b067_6 rfl rfl ?_
  refine x_iload_n C 1 dJ1_charAt_3b067_7 rfl rfl ?_
  refine x_aldB C hk1 rfl dJ1_charAt_3b067_8 (fun _ => ?_)
  refine x_sipush C (255) dJ1_charAt_3b067_9 rfl ?_
  refine x_iand C dJ1_charAt_3b067_12 ?_
  refine x_i2c C dJ1_charAt_3b067_13 ?_
  exact x_rn (fun hb => x_nretQ C (hQ _) rfl (by first | exact nar_c hb | exact nar_b hb) dJ1_charAt_3b067_14)
theorem ct_J1_charAt_3b067 (l : Launch) (E : xE) (k1 : Nat) (p2 : Int) (hk1 : k1 < 24) (σ : xS) : xMet l E yJ1_charAt_3b067 cJ1_charAt_3b067 2 (some .char) { frames := 2, cells := 0, slots := 0, locals := 43 } [cRE E 2 k1, iV p2] WW WW σ (xrI (m_J1_charAt_3b067 k1 p2) σ) := by
  refine xMet.of0 (by decide) (Nat.le_of_ble_eq_true rfl) rfl rfl (fun X hE C => ?_)
  subst hE
  exact xMap (fun v => (some (iV v), σ)) (wk_J1_charAt_3b067 C (fun _ => rfl) hk1)
theorem mt_J1_charAt_3b067 : xMth yJ1_charAt_3b067 cJ1_charAt_3b067 2 (some .char) 2 := ⟨wd889, wd71, ⟨by decide, by decide, rfl⟩⟩
theorem st_J1_charAt_3b067 : Cond.static yJ1_charAt_3b067 ∈ GW := wd888
def m_J0_charAt_5068e (k0 : Nat) (p1 : Int) : Option Int :=
  if (m_J0_isLatin1_aae02 k0) = 0 then none else (m_J1_charAt_3b067 k0 p1).bind fun v2 => xrn v2 (some v2)
set_option maxHeartbeats 4000000 in
set_option maxRecDepth 100000 in
theorem wk_J0_charAt_5068e {X : xX} {Qf : Int → State → Prop} {k0 : Nat} {p1 : Int} {σ : xS} (C : xCx X cJ0_charAt_5068e "java/lang/String" (some .char) { frames := 4, cells := 0, slots := 0, locals := 85 } 2) (hQ : ∀ v, Qf v = xQf X WW (some (iV v), σ)) (hk0 : k0 < 24) : WO X Qf WW σ 0 [(0, cR X 1 k0), (1, iV p1)] [] (m_J0_charAt_5068e k0 p1) := by
  unfold m_J0_charAt_5068e
  refine x_aload_n C 0 dJ0_charAt_5068e_0 rfl rfl ?_
  refine x_callVs C (ct_J0_isLatin1_aae02 _ _ k0 hk0 σ) mt_J0_isLatin1_aae02 vr_J0_isLatin1_aae02 wd883 hk0 rfl ⟨rfl, rfl, Nat.le_of_ble_eq_true rfl, Nat.le_of_ble_eq_true rfl⟩ rfl (by decide) dJ0_charAt_5068e_1 (kP ?_)
  refine x_if_eq C 16 (zI_bo (bo_J0_isLatin1_aae02 _)) dJ0_charAt_5068e_4 rfl (fun c1 => x_op c1 ?_) (fun c1 => x_on c1 ?_)
  · exact x_none
  · refine x_aload_n C 0 dJ0_charAt_5068e_7 rfl rfl ?_
    refine x_svalue C hk0 wd1309 dJ0_charAt_5068e_8 ?_
    refine x_iload_n C 1 dJ0_charAt_5068e_11 rfl rfl ?_
    refine x_callS C (ct_J1_charAt_3b067 _ _ k0 p1 hk0 σ) mt_J1_charAt_3b067 st_J1_charAt_3b067 wd887 rfl ⟨rfl, rfl, Nat.le_of_ble_eq_true rfl, Nat.le_of_ble_eq_true rfl⟩ rfl (by decide) dJ0_charAt_5068e_12 (kI (fun v2 => ?_))
    exact x_rn (fun hb => x_nretQ C (hQ _) rfl (by first | exact nar_c hb | exact nar_b hb) dJ0_charAt_5068e_15)
theorem ct_J0_charAt_5068e (l : Launch) (E : xE) (k0 : Nat) (p1 : Int) (hk0 : k0 < 24) (σ : xS) : xMet l E yJ0_charAt_5068e cJ0_charAt_5068e 2 (some .char) { frames := 4, cells := 0, slots := 0, locals := 85 } [cRE E 1 k0, iV p1] WW WW σ (xrI (m_J0_charAt_5068e k0 p1) σ) := by
  refine xMet.of0 (by decide) (Nat.le_of_ble_eq_true rfl) rfl rfl (fun X hE C => ?_)
  subst hE
  exact xMap (fun v => (some (iV v), σ)) (wk_J0_charAt_5068e C (fun _ => rfl) hk0)
theorem mt_J0_charAt_5068e : xMth yJ0_charAt_5068e cJ0_charAt_5068e 2 (some .char) 1 := ⟨wd882, wd67, ⟨by decide, by decide, rfl⟩⟩
theorem vr_J0_charAt_5068e : xVir yJ0_charAt_5068e := ⟨wd880, wd881⟩
