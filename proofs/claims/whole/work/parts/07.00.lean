def m_J0_coder_7d493 (k0 : Nat) : Int := if (1 : Int) = 0 then 1 else 0
set_option maxHeartbeats 4000000 in
set_option maxRecDepth 100000 in
theorem wk_J0_coder_7d493 {X : xX} {Qf : Int → State → Prop} {k0 : Nat} {σ : xS} (C : xCx X cJ0_coder_7d493 "java/lang/String" (some .byte) { frames := 0, cells := 0, slots := 0, locals := 0 } 1) (hQ : ∀ v, Qf v = xQf X WW (some (iV v), σ)) (hk0 : k0 < 24) : WO X Qf WW σ 0 [(0, cR X 1 k0)] [] (some (m_J0_coder_7d493 k0)) := by
  refine x_gsCS C wd763 dJ0_coder_7d493_0 ?_
  refine x_if_eq C 13 (zIl _ rfl) dJ0_coder_7d493_3 rfl (fun c1 => ?_) (fun c1 => ?_)
  · refine x_iconst C (1) dJ0_coder_7d493_13 rfl ?_
    exact x_leafR (by unfold m_J0_coder_7d493; rw [if_pos c1]) (x_nretQ C (hQ _) rfl rfl dJ0_coder_7d493_14)
  · refine x_aload_n C 0 dJ0_coder_7d493_6 rfl rfl ?_
    refine x_scoder C hk0 wd2280 dJ0_coder_7d493_7 ?_
    refine x_goto C 14 dJ0_coder_7d493_10 rfl ?_
    exact x_leafR (by unfold m_J0_coder_7d493; rw [if_neg c1]) (x_nretQ C (hQ _) rfl rfl dJ0_coder_7d493_14)
theorem ct_J0_coder_7d493 (l : Launch) (E : xE) (k0 : Nat) (hk0 : k0 < 24) (σ : xS) : xMet l E yJ0_coder_7d493 cJ0_coder_7d493 1 (some .byte) { frames := 0, cells := 0, slots := 0, locals := 0 } [cRE E 1 k0] WW WW σ (some (some (iV (m_J0_coder_7d493 k0)), σ)) := by
  refine xMet.of0 (by decide) (Nat.le_of_ble_eq_true rfl) rfl rfl (fun X hE C => ?_)
  subst hE
  exact xMap (fun v => (some (iV v), σ)) (wk_J0_coder_7d493 C (fun _ => rfl) hk0)
theorem mt_J0_coder_7d493 : xMth yJ0_coder_7d493 cJ0_coder_7d493 1 (some .byte) 0 := ⟨wd762, wd165, ⟨by decide, by decide, rfl⟩⟩
theorem vr_J0_coder_7d493 : xVir yJ0_coder_7d493 := ⟨wd760, wd761⟩
def m_J0_length_8abf5 (k0 : Nat) : Int := zshr (sLen k0) (m_J0_coder_7d493 k0)
set_option maxHeartbeats 4000000 in
set_option maxRecDepth 100000 in
theorem wk_J0_length_8abf5 {X : xX} {Qf : Int → State → Prop} {k0 : Nat} {σ : xS} (C : xCx X cJ0_length_8abf5 "java/lang/String" (some .int) { frames := 1, cells := 0, slots := 0, locals := 20 } 1) (hQ : ∀ v, Qf v = xQf X WW (some (iV v), σ)) (hk0 : k0 < 24) : WO X Qf WW σ 0 [(0, cR X 1 k0)] [] (some (m_J0_length_8abf5 k0)) := by
  refine x_aload_n C 0 dJ0_length_8abf5_0 rfl rfl ?_
  refine x_svalue C hk0 wd2279 dJ0_length_8abf5_1 ?_
  refine x_alenB C hk0 dJ0_length_8abf5_4 ?_
  refine x_aload_n C 0 dJ0_length_8abf5_5 rfl rfl ?_
  refine x_callVs C (ct_J0_coder_7d493 _ _ k0 hk0 σ) mt_J0_coder_7d493 vr_J0_coder_7d493 wd759 hk0 rfl ⟨rfl, rfl, Nat.le_of_ble_eq_true rfl, Nat.le_of_ble_eq_true rfl⟩ rfl (Nat.le_of_ble_eq_true rfl) dJ0_length_8abf5_6 (kP ?_)
  refine x_ishr C dJ0_length_8abf5_9 ?_
  exact x_leafR rfl (x_iretQ C (hQ _) rfl dJ0_length_8abf5_10)
theorem ct_J0_length_8abf5 (l : Launch) (E : xE) (k0 : Nat) (hk0 : k0 < 24) (σ : xS) : xMet l E yJ0_length_8abf5 cJ0_length_8abf5 1 (some .int) { frames := 1, cells := 0, slots := 0, locals := 20 } [cRE E 1 k0] WW WW σ (some (some (iV (m_J0_length_8abf5 k0)), σ)) := by
  refine xMet.of0 (by decide) (Nat.le_of_ble_eq_true rfl) rfl rfl (fun X hE C => ?_)
  subst hE
  exact xMap (fun v => (some (iV v), σ)) (wk_J0_length_8abf5 C (fun _ => rfl) hk0)
theorem mt_J0_length_8abf5 : xMth yJ0_length_8abf5 cJ0_length_8abf5 1 (some .int) 0 := ⟨wd758, wd165, ⟨by decide, by decide, rfl⟩⟩
theorem vr_J0_length_8abf5 : xVir yJ0_length_8abf5 := ⟨wd756, wd757⟩
def m_J0_isLatin1_aae02 (k0 : Nat) : Int := if (1 : Int) = 0 then 0 else if (0 : Int) = 0 then 1 else 0
set_option maxHeartbeats 4000000 in
set_option maxRecDepth 100000 in
theorem wk_J0_isLatin1_aae02 {X : xX} {Qf : Int → State → Prop} {k0 : Nat} {σ : xS} (C : xCx X cJ0_isLatin1_aae02 "java/lang/String" (some .boolean) { frames := 0, cells := 0, slots := 0, locals := 0 } 1) (hQ : ∀ v, Qf v = xQf X WW (some (iV v), σ)) (hk0 : k0 < 24) : WO X Qf WW σ 0 [(0, cR X 1 k0)] [] (some (m_J0_isLatin1_aae02 k0)) := by
  refine x_gsCS C wd763 dJ0_isLatin1_aae02_0 ?_
  refine x_if_eq C 17 (zIl _ rfl) dJ0_isLatin1_aae02_3 rfl (fun c1 => ?_) (fun c1 => ?_)
  · refine x_iconst C (0) dJ0_isLatin1_aae02_17 rfl ?_
    exact x_leafR (by unfold m_J0_isLatin1_aae02; rw [if_pos c1]) (x_zretQ C (hQ _) rfl (Or.inl rfl) dJ0_isLatin1_aae02_18)
  · refine x_aload_n C 0 dJ0_isLatin1_aae02_6 rfl rfl ?_
    refine x_scoder C hk0 wd2280 dJ0_isLatin1_aae02_7 ?_
    refine x_if_ne C 17 (zIl _ rfl) dJ0_isLatin1_aae02_10 rfl (fun c2 => ?_) (fun c2 => ?_)
    · refine x_iconst C (0) dJ0_isLatin1_aae02_17 rfl ?_
      exact x_leafR (by unfold m_J0_isLatin1_aae02; rw [if_neg c1, if_neg c2]) (x_zretQ C (hQ _) rfl (Or.inl rfl) dJ0_isLatin1_aae02_18)
    · refine x_iconst C (1) dJ0_isLatin1_aae02_13 rfl ?_
      refine x_goto C 18 dJ0_isLatin1_aae02_14 rfl ?_
      exact x_leafR (by unfold m_J0_isLatin1_aae02; rw [if_neg c1, if_pos c2]) (x_zretQ C (hQ _) rfl (Or.inr rfl) dJ0_isLatin1_aae02_18)
theorem bo_J0_isLatin1_aae02 (k0 : Nat) : m_J0_isLatin1_aae02 k0 = 0 ∨ m_J0_isLatin1_aae02 k0 = 1 := by
  unfold m_J0_isLatin1_aae02
  repeat' split
  all_goals first | exact Or.inl rfl | exact Or.inr rfl
theorem ct_J0_isLatin1_aae02 (l : Launch) (E : xE) (k0 : Nat) (hk0 : k0 < 24) (σ : xS) : xMet l E yJ0_isLatin1_aae02 cJ0_isLatin1_aae02 1 (some .boolean) { frames := 0, cells := 0, slots := 0, locals := 0 } [cRE E 1 k0] WW WW σ (some (some (iV (m_J0_isLatin1_aae02 k0)), σ)) := by
  refine xMet.of0 (by decide) (Nat.le_of_ble_eq_true rfl) rfl rfl (fun X hE C => ?_)
  subst hE
  exact xMap (fun v => (some (iV v), σ)) (wk_J0_isLatin1_aae02 C (fun _ => rfl) hk0)
theorem mt_J0_isLatin1_aae02 : xMth yJ0_isLatin1_aae02 cJ0_isLatin1_aae02 1 (some .boolean) 0 := ⟨wd772, wd165, ⟨by decide, by decide, rfl⟩⟩
theorem vr_J0_isLatin1_aae02 : xVir yJ0_isLatin1_aae02 := ⟨wd770, wd771⟩
def m_J3_checkIndex_8e157 (p1 : Int) (p2 : Int) : Option Int :=
  if (zI p1) < 0 then none else if (zI p1) < (zI p2) then some p1 else none
set_option maxHeartbeats 4000000 in
set_option maxRecDepth 100000 in
theorem wk_J3_checkIndex_8e157 {X : xX} {Qf : Int → State → Prop} {p1 : Int} {p2 : Int} {σ : xS} (C : xCx X cJ3_checkIndex_8e157 "jdk/internal/util/Preconditions" (some .int) { frames := 0, cells := 0, slots := 0, locals := 0 } 3) (hQ : ∀ v, Qf v = xQf X WW (some (iV v), σ)) {u3 : Value} (hu3 : xNR u3) : WO X Qf WW σ 0 [(0, iV p1), (1, iV p2), (2, u3)] [] (m_J3_checkIndex_8e157 p1 p2) := by
  unfold m_J3_checkIndex_8e157
  refine x_iload_n C 0 dJ3_checkIndex_8e157_0 rfl rfl ?_
  refine x_if_lt C 9 rfl dJ3_checkIndex_8e157_1 rfl (fun c1 => x_op c1 ?_) (fun c1 => x_on c1 ?_)
  · exact x_none
  · refine x_iload_n C 0 dJ3_checkIndex_8e157_4 rfl rfl ?_
    refine x_iload_n C 1 dJ3_checkIndex_8e157_5 rfl rfl ?_
    refine x_icmp_lt C 16 rfl rfl dJ3_checkIndex_8e157_6 rfl (fun c2 => x_op c2 ?_) (fun c2 => x_on c2 ?_)
    · refine x_iload_n C 0 dJ3_checkIndex_8e157_16 rfl rfl ?_
      exact x_iretQ C (hQ _) rfl dJ3_checkIndex_8e157_17
    · exact x_none
theorem ct_J3_checkIndex_8e157 (l : Launch) (E : xE) (p1 : Int) (p2 : Int) {u3 : Value} (hu3 : xNR u3) (σ : xS) : xMet l E yJ3_checkIndex_8e157 cJ3_checkIndex_8e157 3 (some .int) { frames := 0, cells := 0, slots := 0, locals := 0 } [iV p1, iV p2, u3] WW WW σ (xrI (m_J3_checkIndex_8e157 p1 p2) σ) := by
  rcases hu3 with rfl | ⟨t, rfl⟩
  · refine xMet.of0 (by decide) (Nat.le_of_ble_eq_true rfl) rfl rfl (fun X hE C => ?_)
    subst hE
    exact xMap (fun v => (some (iV v), σ)) (wk_J3_checkIndex_8e157 C (fun _ => rfl) (Or.inl rfl))
  · refine xMet.of0 (by decide) (Nat.le_of_ble_eq_true rfl) rfl rfl (fun X hE C => ?_)
    subst hE
    exact xMap (fun v => (some (iV v), σ)) (wk_J3_checkIndex_8e157 C (fun _ => rfl) (Or.inr ⟨t, rfl⟩))
theorem mt_J3_checkIndex_8e157 : xMth yJ3_checkIndex_8e157 cJ3_checkIndex_8e157 3 (some .int) 3 := ⟨wd783, wd167, ⟨by decide, by decide, rfl⟩⟩
theorem st_J3_checkIndex_8e157 : Cond.static yJ3_checkIndex_8e157 ∈ GW := wd782
def m_J0_checkIndex_df160 (p1 : Int) (p2 : Int) : Option Unit :=
  (m_J3_checkIndex_8e157 p1 p2).bind fun v2 => some ()
set_option maxHeartbeats 4000000 in
set_option maxRecDepth 100000 in
theorem wk_J0_checkIndex_df160 {X : xX} {Qf : Unit → State → Prop} {p1 : Int} {p2 : Int} {σ : xS} (C : xCx X cJ0_checkIndex_df160 "java/lang/String" none { frames := 1, cells := 0, slots := 0, locals := 22 } 2) (hQ : ∀ u, Qf u = xQf X WW (none, σ))  : WO X Qf WW σ 0 [(0, iV p1), (1, iV p2)] [] (m_J0_checkIndex_df160 p1 p2) := by
  unfold m_J0_checkIndex_df160
  refine x_iload_n C 0 dJ0_checkIndex_df160_0 rfl rfl ?_
  refine x_iload_n C 1 dJ0_checkIndex_df160_1 rfl rfl ?_
  refine x_gsq C wd779 dJ0_checkIndex_df160_2 (fun u1 hu1 => ?_)
  refine x_callS C (ct_J3_checkIndex_8e157 _ _ p1 p2 hu1 σ) mt_J3_checkIndex_8e157 st_J3_checkIndex_8e157 wd781 rfl ⟨rfl, rfl, Nat.le_of_ble_eq_true rfl, Nat.le_of_ble_eq_true rfl⟩ rfl (by decide) dJ0_checkIndex_df160_5 (kI (fun v2 => ?_))
  refine x_pop C dJ0_checkIndex_df160_8 rfl ?_
  exact x_vretQ C (hQ _) rfl dJ0_checkIndex_df160_9
theorem ct_J0_checkIndex_df160 (l : Launch) (E : xE) (p1 : Int) (p2 : Int)  (σ : xS) : xMet l E yJ0_checkIndex_df160 cJ0_checkIndex_df160 2 none { frames := 1, cells := 0, slots := 0, locals := 22 } [iV p1, iV p2] WW WW σ (xrU (m_J0_checkIndex_df160 p1 p2) σ) := by
  refine xMet.of0 (by decide) (Nat.le_of_ble_eq_true rfl) rfl rfl (fun X hE C => ?_)
  subst hE
  exact xMap (fun _ => (none, σ)) (wk_J0_checkIndex_df160 C (fun _ => rfl) )
theorem mt_J0_checkIndex_df160 : xMth yJ0_checkIndex_df160 cJ0_checkIndex_df160 2 none 2 := ⟨wd778, wd165, ⟨by decide, by decide, rfl⟩⟩
theorem st_J0_checkIndex_df160 : Cond.static yJ0_checkIndex_df160 ∈ GW := wd777
def m_J1_charAt_3b067 (k1 : Nat) (p2 : Int) : Option Int :=
  (m_J0_checkIndex_df160 p2 (sLen k1)).bind fun v1 => xcki (zI p2) (sLen k1) <| xrn (zi2c (zand (sByt k1 (zI p2).toNat) 255)) (some (zi2c (zand (sByt k1 (zI p2).toNat) 255)))
set_option maxHeartbeats 4000000 in
set_option maxRecDepth 100000 in
theorem wk_J1_charAt_3b067 {X : xX} {Qf : Int → State → Prop} {k1 : Nat} {p2 : Int} {σ : xS} (C : xCx X cJ1_charAt_3b067 "java/lang/StringLatin1" (some .char) { frames := 2, cells := 0, slots := 0, locals := 43 } 2) (hQ : ∀ v, Qf v = xQf X WW (some (iV v), σ)) (hk1 : k1 < 24) : WO X Qf WW σ 0 [(0, cR X 2 k1), (1, iV p2)] [] (m_J1_charAt_3b067 k1 p2) := by
  unfold m_J1_charAt_3b067
  refine x_iload_n C 1 dJ1_charAt_3b067_0 rfl rfl ?_
  refine x_aload_n C 0 dJ1_charAt_3b067_1 rfl rfl ?_
  refine x_alenB C hk1 dJ1_charAt_3b067_2 ?_
  refine x_callS C (ct_J0_checkIndex_df160 _ _ p2 (sLen k1) σ) mt_J0_checkIndex_df160 st_J0_checkIndex_df160 wd776 rfl ⟨rfl, rfl, Nat.le_of_ble_eq_true rfl, Nat.le_of_ble_eq_true rfl⟩ rfl (by decide) dJ1_charAt_3b067_3 (kU (fun v1 => ?_))
  refine x_aload_n C 0 dJ1_charAt_3b067_6 rfl rfl ?_
  refine x_iload_n C 1 dJ1_charAt_3b067_7 rfl rfl ?_
  refine x_aldB C hk1 rfl dJ1_charAt_3b067_8 (fun _ => ?_)
  refine x_sipush C (255) dJ1_charAt_3b067_9 rfl ?_
  refine x_iand C dJ1_charAt_3b067_12 ?_
  refine x_i2c C dJ1_charAt_3b067_13 ?_
  exact x_rn (fun hb => x_nretQ C (hQ _) rfl (by first | exact nar_c hb | exact nar_b hb) dJ1_charAt_3b067_14)
theorem ct_J1_charAt_3b067 (l : Launch) (E : xE) (k1 : Nat) (p2 : Int) (hk1 : k1 < 24) (σ : xS) : xMet l E yJ1_charAt_3b067 cJ1_charAt_3b067 2 (some .char) { frames := 2, cells := 0, slots := 0, locals := 43 } [cRE E 2 k1, iV p2] WW WW σ (xrI (m_J1_charAt_3b067 k1 p2) σ) := by
  refine xMet.of0 (by decide) (Nat.le_of_ble_eq_true rfl) rfl rfl (fun X hE C => ?_)
  subst hE
  exact xMap (fun v => (some (iV v), σ)) (wk_J1_charAt_3b067 C (fun _ => rfl) hk1)
theorem mt_J1_charAt_3b067 : xMth yJ1_charAt_3b067 cJ1_charAt_3b067 2 (some .char) 2 := ⟨wd775, wd166, ⟨by decide, by decide, rfl⟩⟩
theorem st_J1_charAt_3b067 : Cond.static yJ1_charAt_3b067 ∈ GW := wd774
def m_J0_charAt_5068e (k0 : Nat) (p1 : Int) : Option Int :=
  if (m_J0_isLatin1_aae02 k0) = 0 then none else (m_J1_charAt_3b067 k0 p1).bind fun v2 => xrn v2 (some v2)
set_option maxHeartbeats 4000000 in
set_option maxRecDepth 100000 in
theorem wk_J0_charAt_5068e {X : xX} {Qf : Int → State → Prop} {k0 : Nat} {p1 : Int} {σ : xS} (C : xCx X cJ0_charAt_5068e "java/lang/String" (some .char) { frames := 4, cells := 0, slots := 0, locals := 85 } 2) (hQ : ∀ v, Qf v = xQf X WW (some (iV v), σ)) (hk0 : k0 < 24) : WO X Qf WW σ 0 [(0, cR X 1 k0), (1, iV p1)] [] (m_J0_charAt_5068e k0 p1) := by
  unfold m_J0_charAt_5068e
  refine x_aload_n C 0 dJ0_charAt_5068e_0 rfl rfl ?_
  refine x_callVs C (ct_J0_isLatin1_aae02 _ _ k0 hk0 σ) mt_J0_isLatin1_aae02 vr_J0_isLatin1_aae02 wd769 hk0 rfl ⟨rfl, rfl, Nat.le_of_ble_eq_true rfl, Nat.le_of_ble_eq_true rfl⟩ rfl (by decide) dJ0_charAt_5068e_1 (kP ?_)
  refine x_if_eq C 16 (zI_bo (bo_J0_isLatin1_aae02 _)) dJ0_charAt_5068e_4 rfl (fun c1 => x_op c1 ?_) (fun c1 => x_on c1 ?_)
  · exact x_none
  · refine x_aload_n C 0 dJ0_charAt_5068e_7 rfl rfl ?_
    refine x_svalue C hk0 wd2279 dJ0_charAt_5068e_8 ?_
    refine x_iload_n C 1 dJ0_charAt_5068e_11 rfl rfl ?_
    refine x_callS C (ct_J1_charAt_3b067 _ _ k0 p1 hk0 σ) mt_J1_charAt_3b067 st_J1_charAt_3b067 wd773 rfl ⟨rfl, rfl, Nat.le_of_ble_eq_true rfl, Nat.le_of_ble_eq_true rfl⟩ rfl (by decide) dJ0_charAt_5068e_12 (kI (fun v2 => ?_))
    exact x_rn (fun hb => x_nretQ C (hQ _) rfl (by first | exact nar_c hb | exact nar_b hb) dJ0_charAt_5068e_15)
theorem ct_J0_charAt_5068e (l : Launch) (E : xE) (k0 : Nat) (p1 : Int) (hk0 : k0 < 24) (σ : xS) : xMet l E yJ0_charAt_5068e cJ0_charAt_5068e 2 (some .char) { frames := 4, cells := 0, slots := 0, locals := 85 } [cRE E 1 k0, iV p1] WW WW σ (xrI (m_J0_charAt_5068e k0 p1) σ) := by
  refine xMet.of0 (by decide) (Nat.le_of_ble_eq_true rfl) rfl rfl (fun X hE C => ?_)
  subst hE
  exact xMap (fun v => (some (iV v), σ)) (wk_J0_charAt_5068e C (fun _ => rfl) hk0)
theorem mt_J0_charAt_5068e : xMth yJ0_charAt_5068e cJ0_charAt_5068e 2 (some .char) 1 := ⟨wd768, wd165, ⟨by decide, by decide, rfl⟩⟩
theorem vr_J0_charAt_5068e : xVir yJ0_charAt_5068e := ⟨wd766, wd767⟩
def m_X10_keyword (n : Nat) (σ : xS) : Option Int :=
  if (zI (σ 3 2)) = 1 then xlet ((σ 3 4) - (σ 3 3)) fun v2 => loopF (fun rec4 (t3 : Int) => if 24 ≤ (zI t3) then some (-1) else xck (zI t3) 24 <| loopF (fun rec9 (t8 : Int) => xj (fun (q13 : Unit) => xj (fun (q16 : Unit) => xlet (t3 + 1) fun v17 => rec4 v17) fun J14 => if (zI t8) = (zI v2) then if (zI t8) = (zI (m_J0_length_8abf5 ((zI t3).toNat))) then some (zI t3) else J14 () else J14 ()) fun J11 => if (zI v2) ≤ (zI t8) then J11 () else if (zI (m_J0_length_8abf5 ((zI t3).toNat))) ≤ (zI t8) then J11 () else xck (zI ((σ 3 3) + t8)) 1600 <| (m_J0_charAt_5068e ((zI t3).toNat) t8).bind fun v22 => if (zI (σ 1 (zI ((σ 3 3) + t8)).toNat)) = (zI v22) then xlet (t8 + 1) fun v24 => rec9 v24 else J11 ()) n 0) n 0 else some (-1)
set_option maxHeartbeats 4000000 in
set_option maxRecDepth 100000 in
theorem wk_X10_keyword {X : xX} {Qf : Int → State → Prop} {n : Nat} {σ : xS} (C : xCx X cX10_keyword "BakeryNight$Scanner" (some (.object "BakeryNight$Word")) { frames := 5, cells := 0, slots := 0, locals := 106 } 7) (hQ : ∀ v, Qf v = xQf X WW (some (wV (xXE X) v), σ))  : WO X Qf WW σ 0 [(0, .ref ((xXE X).2.2 + 3))] [] (m_X10_keyword n σ) := by
  unfold m_X10_keyword
  refine x_aload_n C 0 dX10_keyword_0 rfl rfl ?_
  refine x_get (v := iV (σ 3 2)) C 2 cls_X10 at_X10 (by decide) wd202 rfl rfl dX10_keyword_1 ?_
  refine x_iconst C (1) dX10_keyword_4 rfl ?_
  refine x_icmp_eq C 10 rfl (zIl _ rfl) dX10_keyword_5 rfl (fun c1 => x_op c1 ?_) (fun c1 => x_on c1 ?_)
  · refine x_aload_n C 0 dX10_keyword_10 rfl rfl ?_
    refine x_get (v := iV (σ 3 4)) C 4 cls_X10 at_X10 (by decide) wd205 rfl rfl dX10_keyword_11 ?_
    refine x_aload_n C 0 dX10_keyword_14 rfl rfl ?_
    refine x_get (v := iV (σ 3 3)) C 3 cls_X10 at_X10 (by decide) wd203 rfl rfl dX10_keyword_15 ?_
    refine x_isub C dX10_keyword_18 ?_
    refine x_letI (fun v2 => ?_)
    refine x_istore_n (L' := [(1, _), (0, _)]) C dX10_keyword_19 rfl (by decide) rfl ?_
    refine x_gsWORDS C wd753 dX10_keyword_20 ?_
    refine x_astore_n (L' := [(2, _), (1, _), (0, _)]) C dX10_keyword_23 rfl (by decide) rfl ?_
    refine x_aload_n C 0 dX10_keyword_24 rfl rfl ?_
    refine x_alenWS C dX10_keyword_25 ?_
    refine x_istore_n (L' := [(3, _), (2, _), (1, _), (0, _)]) C dX10_keyword_26 rfl (by decide) rfl ?_
    refine x_iconst C (0) dX10_keyword_27 rfl ?_
    refine x_istore (L' := [(4, _), (3, _), (2, _), (1, _), (0, _)]) C dX10_keyword_28 (by decide) rfl ?_
    refine x_pick [4, 3, 2, 1, 0] rfl ?_
    refine x_loop (fun t3 : Int => σ) (fun t3 : Int => [(0, .ref ((xXE X).2.2 + 3)), (1, iV v2), (2, cR X 3 0), (3, iV 24), (4, iV t3)]) (fun rec4 hr5 t3 => ?_) n 0
    refine x_iload C 4 dX10_keyword_30 rfl ?_
    refine x_iload_n C 3 dX10_keyword_32 rfl rfl ?_
    refine x_icmp_ge C 123 rfl (zIl _ rfl) dX10_keyword_33 rfl (fun c6 => x_op c6 ?_) (fun c6 => x_on c6 ?_)
    · refine x_null C dX10_keyword_123 ?_
      exact x_wretQ C (hQ _) rfl dX10_keyword_124
    · refine x_aload_n C 2 dX10_keyword_36 rfl rfl ?_
      refine x_iload C 4 dX10_keyword_37 rfl ?_
      refine x_aldWS C rfl dX10_keyword_39 (fun h7 => ?_)
      refine x_astore (L' := [(5, _), (0, _), (1, _), (2, _), (3, _), (4, _)]) C dX10_keyword_40 (by decide) rfl ?_
      refine x_iconst C (0) dX10_keyword_42 rfl ?_
      refine x_istore (L' := [(6, _), (5, _), (0, _), (1, _), (2, _), (3, _), (4, _)]) C dX10_keyword_43 (by decide) rfl ?_
      refine x_pick [2, 3, 4, 5, 6, 1, 0] rfl ?_
      refine x_loop (fun t8 : Int => σ) (fun t8 : Int => [(0, .ref ((xXE X).2.2 + 3)), (1, iV v2), (2, cR X 3 0), (3, iV 24), (4, iV t3), (5, wV (xXE X) (zI t3)), (6, iV t8)]) (fun rec9 hr10 t8 => ?_) n 0
      refine x_iload C 6 dX10_keyword_45 rfl ?_
      refine x_iload_n C 1 dX10_keyword_47 rfl rfl ?_
      refine x_join (fun J => ∀ q13 : Unit, WO X Qf WW σ 95 [(0, .ref ((xXE X).2.2 + 3)), (1, iV v2), (2, cR X 3 0), (3, iV 24), (4, iV t3), (5, wV (xXE X) (zI t3)), (6, iV t8)] [] (J q13)) ?_ ?_
      · intro q13
        refine x_iload C 6 dX10_keyword_95 rfl ?_
        refine x_iload_n C 1 dX10_keyword_97 rfl rfl ?_
        refine x_join (fun J => ∀ q16 : Unit, WO X Qf WW σ 117 [(0, .ref ((xXE X).2.2 + 3)), (1, iV v2), (2, cR X 3 0), (3, iV 24), (4, iV t3)] [] (J q16)) ?_ ?_
        · intro q16
          refine x_inc C 4 (f := _) dX10_keyword_117 rfl (by decide) (1) rfl (fun v17 => ?_)
          refine x_reL (L' := [(4, _), (0, _), (1, _), (2, _), (3, _)]) rfl ?_
          refine x_goto C 30 dX10_keyword_120 rfl ?_
          refine x_pick [1, 2, 3, 4, 0] rfl ?_
          exact hr5 v17
        · intro J14 hJ15
          refine x_icmp_ne C 117 rfl rfl dX10_keyword_98 rfl (fun c18 => x_on c18 ?_) (fun c18 => x_op c18 ?_)
          · refine x_pick [0, 1, 2, 3, 4] rfl ?_
            exact hJ15 ()
          · refine x_iload C 6 dX10_keyword_101 rfl ?_
            refine x_aload C 5 dX10_keyword_103 rfl ?_
            refine x_wtext C h7 wd2278 dX10_keyword_105 ?_
            refine x_callVs C (ct_J0_length_8abf5 _ _ ((zI t3).toNat) (w_ix h7) σ) mt_J0_length_8abf5 vr_J0_length_8abf5 wd755 (w_ix h7) rfl ⟨rfl, rfl, Nat.le_of_ble_eq_true rfl, Nat.le_of_ble_eq_true rfl⟩ rfl (Nat.le_of_ble_eq_true rfl) dX10_keyword_108 (kP ?_)
            refine x_icmp_ne C 117 rfl rfl dX10_keyword_111 rfl (fun c19 => x_on c19 ?_) (fun c19 => x_op c19 ?_)
            · refine x_pick [0, 1, 2, 3, 4] rfl ?_
              exact hJ15 ()
            · refine x_aload C 5 dX10_keyword_114 rfl ?_
              exact x_wretQ C (hQ _) rfl dX10_keyword_116
      · intro J11 hJ12
        refine x_icmp_ge C 95 rfl rfl dX10_keyword_48 rfl (fun c20 => x_op c20 ?_) (fun c20 => x_on c20 ?_)
        · refine x_pick [0, 1, 2, 3, 4, 5, 6] rfl ?_
          exact hJ12 ()
        · refine x_iload C 6 dX10_keyword_51 rfl ?_
          refine x_aload C 5 dX10_keyword_53 rfl ?_
          refine x_wtext C h7 wd2278 dX10_keyword_55 ?_
          refine x_callVs C (ct_J0_length_8abf5 _ _ ((zI t3).toNat) (w_ix h7) σ) mt_J0_length_8abf5 vr_J0_length_8abf5 wd755 (w_ix h7) rfl ⟨rfl, rfl, Nat.le_of_ble_eq_true rfl, Nat.le_of_ble_eq_true rfl⟩ rfl (Nat.le_of_ble_eq_true rfl) dX10_keyword_58 (kP ?_)
          refine x_icmp_ge C 95 rfl rfl dX10_keyword_61 rfl (fun c21 => x_op c21 ?_) (fun c21 => x_on c21 ?_)
          · refine x_pick [0, 1, 2, 3, 4, 5, 6] rfl ?_
            exact hJ12 ()
          · refine x_aload_n C 0 dX10_keyword_64 rfl rfl ?_
            refine x_get (v := .ref ((xXE X).2.2 + 1)) C 0 cls_X10 at_X10 (by decide) wd199 rfl (xV_r (rt_X10_text  _) rfl) dX10_keyword_65 ?_
            refine x_aload_n C 0 dX10_keyword_68 rfl rfl ?_
            refine x_get (v := iV (σ 3 3)) C 3 cls_X10 at_X10 (by decide) wd203 rfl rfl dX10_keyword_69 ?_
            refine x_iload C 6 dX10_keyword_72 rfl ?_
            refine x_iadd C dX10_keyword_74 ?_
            refine x_bald C at_X10_text rfl dX10_keyword_75 (fun _ => ?_)
            refine x_aload C 5 dX10_keyword_76 rfl ?_
            refine x_wtext C h7 wd2278 dX10_keyword_78 ?_
            refine x_iload C 6 dX10_keyword_81 rfl ?_
            refine x_callVs C (ct_J0_charAt_5068e _ _ ((zI t3).toNat) t8 (w_ix h7) σ) mt_J0_charAt_5068e vr_J0_charAt_5068e wd765 (w_ix h7) rfl ⟨rfl, rfl, Nat.le_of_ble_eq_true rfl, Nat.le_of_ble_eq_true rfl⟩ rfl (Nat.le_of_ble_eq_true rfl) dX10_keyword_83 (kI (fun v22 => ?_))
            refine x_icmp_ne C 95 rfl rfl dX10_keyword_86 rfl (fun c23 => x_on c23 ?_) (fun c23 => x_op c23 ?_)
            · refine x_pick [0, 1, 2, 3, 4, 5, 6] rfl ?_
              exact hJ12 ()
            · refine x_inc C 6 (f := _) dX10_keyword_89 rfl (by decide) (1) rfl (fun v24 => ?_)
              refine x_reL (L' := [(6, _), (0, _), (1, _), (2, _), (3, _), (4, _), (5, _)]) rfl ?_
              refine x_goto C 45 dX10_keyword_92 rfl ?_
              refine x_pick [1, 2, 3, 4, 5, 6, 0] rfl ?_
              exact hr10 v24
  · refine x_null C dX10_keyword_8 ?_
    exact x_wretQ C (hQ _) rfl dX10_keyword_9
theorem ct_X10_keyword (l : Launch) (E : xE) (n : Nat) (σ : xS)   : xMet l E yX10_keyword cX10_keyword 7 (some (.object "BakeryNight$Word")) { frames := 5, cells := 0, slots := 0, locals := 106 } [.ref (E.2.2 + 3)] WW WW σ (xrW E (m_X10_keyword n σ) σ) := by
  refine xMet.of0 (by decide) (Nat.le_of_ble_eq_true rfl) rfl rfl (fun X hE C => ?_)
  subst hE
  exact xMap (fun v => (some (wV E v), σ)) (wk_X10_keyword C (fun _ => rfl) )
theorem mt_X10_keyword : xMth yX10_keyword cX10_keyword 7 (some (.object "BakeryNight$Word")) 0 := ⟨wd752, wd153, ⟨by decide, by decide, rfl⟩⟩
theorem vr_X10_keyword : xVir yX10_keyword := ⟨wd750, wd751⟩
def m_X10_isName (n : Nat) (σ : xS) : Option Int :=
  xj (fun (q7 : Int) => xbo q7 (some q7)) fun J5 => xj (fun (q10 : Unit) => J5 0) fun J8 => if (zI (σ 3 2)) = 1 then if 8 < (zI ((σ 3 4) - (σ 3 3))) then J8 () else (m_X10_keyword n σ).bind fun v13 => xwd v13 <| if v13 = -1 then J5 1 else J8 () else J8 ()
set_option maxHeartbeats 4000000 in
set_option maxRecDepth 100000 in
theorem wk_X10_isName {X : xX} {Qf : Int → State → Prop} {n : Nat} {σ : xS} (C : xCx X cX10_isName "BakeryNight$Scanner" (some .boolean) { frames := 6, cells := 0, slots := 0, locals := 132 } 1) (hQ : ∀ v, Qf v = xQf X WW (some (iV v), σ))  : WO X Qf WW σ 0 [(0, .ref ((xXE X).2.2 + 3))] [] (m_X10_isName n σ) := by
  unfold m_X10_isName
  refine x_aload_n C 0 dX10_isName_0 rfl rfl ?_
  refine x_get (v := iV (σ 3 2)) C 2 cls_X10 at_X10 (by decide) wd202 rfl rfl dX10_isName_1 ?_
  refine x_iconst C (1) dX10_isName_4 rfl ?_
  refine x_join (fun J => ∀ q7 : Int, WO X Qf WW σ 34 [] [iV q7] (J q7)) ?_ ?_
  · intro q7
    exact x_bo (fun hb => x_zretQ C (hQ _) rfl hb dX10_isName_34)
  · intro J5 hJ6
    refine x_join (fun J => ∀ q10 : Unit, WO X Qf WW σ 33 [] [] (J q10)) ?_ ?_
    · intro q10
      refine x_iconst C (0) dX10_isName_33 rfl ?_
      refine x_pick [] rfl ?_
      exact hJ6 0
    · intro J8 hJ9
      refine x_icmp_ne C 33 rfl (zIl _ rfl) dX10_isName_5 rfl (fun c11 => x_on c11 ?_) (fun c11 => x_op c11 ?_)
      · refine x_pick [] rfl ?_
        exact hJ9 ()
      · refine x_aload_n C 0 dX10_isName_8 rfl rfl ?_
        refine x_get (v := iV (σ 3 4)) C 4 cls_X10 at_X10 (by decide) wd205 rfl rfl dX10_isName_9 ?_
        refine x_aload_n C 0 dX10_isName_12 rfl rfl ?_
        refine x_get (v := iV (σ 3 3)) C 3 cls_X10 at_X10 (by decide) wd203 rfl rfl dX10_isName_13 ?_
        refine x_isub C dX10_isName_16 ?_
        refine x_bipush C (8) dX10_isName_17 rfl ?_
        refine x_icmp_gt C 33 rfl (zIl _ rfl) dX10_isName_19 rfl (fun c12 => x_op c12 ?_) (fun c12 => x_on c12 ?_)
        · refine x_pick [] rfl ?_
          exact hJ9 ()
        · refine x_aload_n C 0 dX10_isName_22 rfl rfl ?_
          refine x_callV C (ct_X10_keyword _ _ n σ) mt_X10_keyword vr_X10_keyword wd852 cls_X10 at_X10 rfl ⟨rfl, rfl, Nat.le_of_ble_eq_true rfl, Nat.le_of_ble_eq_true rfl⟩ rfl (by decide) dX10_isName_23 (kW (fun v13 => ?_))
          refine x_wd (fun hw14 => ?_)
          refine x_ifnonnullW C hw14 33 dX10_isName_26 rfl (fun c15 => x_on c15 ?_) (fun c15 => x_op c15 ?_)
          · refine x_pick [] rfl ?_
            exact hJ9 ()
          · refine x_iconst C (1) dX10_isName_29 rfl ?_
            refine x_goto C 34 dX10_isName_30 rfl ?_
            refine x_pick [] rfl ?_
            exact hJ6 1
theorem ct_X10_isName (l : Launch) (E : xE) (n : Nat) (σ : xS)   : xMet l E yX10_isName cX10_isName 1 (some .boolean) { frames := 6, cells := 0, slots := 0, locals := 132 } [.ref (E.2.2 + 3)] WW WW σ (xrI (m_X10_isName n σ) σ) := by
  refine xMet.of0 (by decide) (Nat.le_of_ble_eq_true rfl) rfl rfl (fun X hE C => ?_)
  subst hE
  exact xMap (fun v => (some (iV v), σ)) (wk_X10_isName C (fun _ => rfl) )
theorem mt_X10_isName : xMth yX10_isName cX10_isName 1 (some .boolean) 0 := ⟨wd851, wd153, ⟨by decide, by decide, rfl⟩⟩
theorem vr_X10_isName : xVir yX10_isName := ⟨wd849, wd850⟩
def m_X7_readNewName (n : Nat) (k1 z1 : Nat) (p2 : Int) (σ : xS) : Option xS :=
  (m_X10_isName n σ).bind fun v1 => xj (fun (q5 : xS) => xj (fun (q9 : xS) => some q9) fun J7 => if (m_X7_failed q5) = 0 then (m_X10_letters n q5).bind fun v11 => xck (zI p2) z1 <| xlet (xput q5 k1 (zI p2).toNat v11) fun s12 => (m_X10_next n s12).bind fun s13 => J7 s13 else J7 q5) fun J3 => if (zI v1) = 0 then (m_X7_fail 1 σ).bind fun s18 => J3 s18 else (m_X7_indexOfName n k1 z1 p2 σ).bind fun v15 => if (zI v15) = (-1) then J3 σ else (m_X7_fail 3 σ).bind fun s17 => J3 s17
set_option maxHeartbeats 4000000 in
set_option maxRecDepth 100000 in
theorem wk_X7_readNewName {X : xX} {Qf : xS → State → Prop} {n : Nat} {k1 z1 : Nat} {p2 : Int} {σ : xS} (C : xCx X cX7_readNewName "BakeryNight$Parser" none { frames := 7, cells := 0, slots := 0, locals := 152 } 3) (hQ : ∀ τ, Qf τ = xQf X WW (none, τ)) (hk1 : xAt WW k1 1 z1) : WO X Qf WW σ 0 [(0, .ref ((xXE X).2.2 + 2)), (1, .ref ((xXE X).2.2 + k1)), (2, iV p2)] [] (m_X7_readNewName n k1 z1 p2 σ) := by
  unfold m_X7_readNewName
  refine x_aload_n C 0 dX7_readNewName_0 rfl rfl ?_
  refine x_get (v := .ref ((xXE X).2.2 + 3)) C 0 cls_X7 at_X7 (by decide) wd218 rfl (xV_r (rt_X7_scanner  _) rfl) dX7_readNewName_1 ?_
  refine x_callV C (ct_X10_isName _ _ n σ) mt_X10_isName vr_X10_isName wd848 cls_X10 at_X10 rfl ⟨rfl, rfl, Nat.le_of_ble_eq_true rfl, Nat.le_of_ble_eq_true rfl⟩ rfl (by decide) dX7_readNewName_4 (kI (fun v1 => ?_))
  refine x_join (fun J => ∀ q5 : xS, WO X Qf WW q5 33 [(0, .ref ((xXE X).2.2 + 2)), (1, .ref ((xXE X).2.2 + k1)), (2, iV p2)] [] (J q5)) ?_ ?_
  · intro q5
    refine x_aload_n C 0 dX7_readNewName_33 rfl rfl ?_
    refine x_callV C (ct_X7_failed _ _ q5) mt_X7_failed vr_X7_failed wd832 cls_X7 at_X7 rfl ⟨rfl, rfl, Nat.le_of_ble_eq_true rfl, Nat.le_of_ble_eq_true rfl⟩ rfl (by decide) dX7_readNewName_34 (kP ?_)
    refine x_join (fun J => ∀ q9 : xS, WO X Qf WW q9 57 [] [] (J q9)) ?_ ?_
    · intro q9
      exact x_vretQ C (hQ _) rfl dX7_readNewName_57
    · intro J7 hJ8
      refine x_if_ne C 57 (zI_bo (bo_X7_failed _)) dX7_readNewName_37 rfl (fun c10 => x_on c10 ?_) (fun c10 => x_op c10 ?_)
      · refine x_pick [] rfl ?_
        exact hJ8 q5
      · refine x_aload_n C 1 dX7_readNewName_40 rfl rfl ?_
        refine x_iload_n C 2 dX7_readNewName_41 rfl rfl ?_
        refine x_aload_n C 0 dX7_readNewName_42 rfl rfl ?_
        refine x_get (v := .ref ((xXE X).2.2 + 3)) C 0 cls_X7 at_X7 (by decide) wd218 rfl (xV_r (rt_X7_scanner  _) rfl) dX7_readNewName_43 ?_
        refine x_callV C (ct_X10_letters _ _ n q5) mt_X10_letters vr_X10_letters wd857 cls_X10 at_X10 rfl ⟨rfl, rfl, Nat.le_of_ble_eq_true rfl, Nat.le_of_ble_eq_true rfl⟩ rfl (Nat.le_of_ble_eq_true rfl) dX7_readNewName_46 (kL (fun v11 => ?_))
        refine x_last C hk1 rfl dX7_readNewName_49 (fun _ => ?_)
        refine x_letS (fun s12 => ?_)
        refine x_aload_n C 0 dX7_readNewName_50 rfl rfl ?_
        refine x_get (v := .ref ((xXE X).2.2 + 3)) C 0 cls_X7 at_X7 (by decide) wd218 rfl (xV_r (rt_X7_scanner  _) rfl) dX7_readNewName_51 ?_
        refine x_callV C (ct_X10_next _ _ n s12) mt_X10_next vr_X10_next wd819 cls_X10 at_X10 rfl ⟨rfl, rfl, Nat.le_of_ble_eq_true rfl, Nat.le_of_ble_eq_true rfl⟩ rfl (by decide) dX7_readNewName_54 (kV (fun s13 => ?_))
        refine x_pick [] rfl ?_
        exact hJ8 s13
  · intro J3 hJ4
    refine x_if_ne C 18 rfl dX7_readNewName_7 rfl (fun c14 => x_on c14 ?_) (fun c14 => x_op c14 ?_)
    · refine x_aload_n C 0 dX7_readNewName_18 rfl rfl ?_
      refine x_aload_n C 1 dX7_readNewName_19 rfl rfl ?_
      refine x_iload_n C 2 dX7_readNewName_20 rfl rfl ?_
      refine x_callV C (ct_X7_indexOfName _ _ n k1 z1 p2 σ hk1) mt_X7_indexOfName vr_X7_indexOfName wd853 cls_X7 at_X7 rfl ⟨rfl, rfl, Nat.le_of_ble_eq_true rfl, Nat.le_of_ble_eq_true rfl⟩ rfl (by decide) dX7_readNewName_21 (kI (fun v15 => ?_))
      refine x_iconst C (-1) dX7_readNewName_24 rfl ?_
      refine x_icmp_eq C 33 rfl (zIl _ rfl) dX7_readNewName_25 rfl (fun c16 => x_op c16 ?_) (fun c16 => x_on c16 ?_)
      · refine x_pick [0, 1, 2] rfl ?_
        exact hJ4 σ
      · refine x_aload_n C 0 dX7_readNewName_28 rfl rfl ?_
        refine x_iconst C (3) dX7_readNewName_29 rfl ?_
        refine x_callV C (ct_X7_fail _ _ 3 σ) mt_X7_fail vr_X7_fail wd803 cls_X7 at_X7 rfl ⟨rfl, rfl, Nat.le_of_ble_eq_true rfl, Nat.le_of_ble_eq_true rfl⟩ rfl (by decide) dX7_readNewName_30 (kV (fun s17 => ?_))
        refine x_pick [0, 1, 2] rfl ?_
        exact hJ4 s17
    · refine x_aload_n C 0 dX7_readNewName_10 rfl rfl ?_
      refine x_iconst C (1) dX7_readNewName_11 rfl ?_
      refine x_callV C (ct_X7_fail _ _ 1 σ) mt_X7_fail vr_X7_fail wd803 cls_X7 at_X7 rfl ⟨rfl, rfl, Nat.le_of_ble_eq_true rfl, Nat.le_of_ble_eq_true rfl⟩ rfl (by decide) dX7_readNewName_12 (kV (fun s18 => ?_))
      refine x_goto C 33 dX7_readNewName_15 rfl ?_
      refine x_pick [0, 1, 2] rfl ?_
      exact hJ4 s18
theorem ct_X7_readNewName (l : Launch) (E : xE) (n : Nat) (k1 z1 : Nat) (p2 : Int) (σ : xS) (hk1 : xAt WW k1 1 z1)  : xMet l E yX7_readNewName cX7_readNewName 3 none { frames := 7, cells := 0, slots := 0, locals := 152 } [.ref (E.2.2 + 2), .ref (E.2.2 + k1), iV p2] WW WW σ (xrV (m_X7_readNewName n k1 z1 p2 σ)) := by
  refine xMet.of0 (by decide) (Nat.le_of_ble_eq_true rfl) rfl rfl (fun X hE C => ?_)
  subst hE
  exact xMap (fun q => (none, q)) (wk_X7_readNewName C (fun _ => rfl) hk1)
theorem mt_X7_readNewName : xMth yX7_readNewName cX7_readNewName 3 none 2 := ⟨wd847, wd152, ⟨by decide, by decide, rfl⟩⟩
theorem vr_X7_readNewName : xVir yX7_readNewName := ⟨wd846, wd11⟩
def m_X7_readField (n : Nat) (p1 : Int) (p2 : Int) (p3 : Int) (σ : xS) : Option (Int × xS) :=
  (m_X10_keyword n σ).bind fun v1 => xwd v1 <| xj (fun (q6 : xS) => if (m_X7_failed q6) = 0 then (m_X10_next n q6).bind fun s8 => xbS (m_X7_readNumber n p2 p3 s8) fun v10 s9 => some (v10, s9) else some (p2, q6)) fun J4 => if v1 = p1 then J4 σ else (m_X7_fail 1 σ).bind fun s12 => J4 s12
set_option maxHeartbeats 4000000 in
set_option maxRecDepth 100000 in
theorem wk_X7_readField {X : xX} {Qf : (Int × xS) → State → Prop} {n : Nat} {p1 : Int} {p2 : Int} {p3 : Int} {σ : xS} (C : xCx X cX7_readField "BakeryNight$Parser" (some .int) { frames := 6, cells := 0, slots := 0, locals := 132 } 4) (hQ : ∀ v τ, Qf (v, τ) = xQf X WW (some (iV v), τ)) (hp1 : 0 ≤ p1 ∧ p1 < 24) : WO X Qf WW σ 0 [(0, .ref ((xXE X).2.2 + 2)), (1, wV (xXE X) p1), (2, iV p2), (3, iV p3)] [] (m_X7_readField n p1 p2 p3 σ) := by
  unfold m_X7_readField
  refine x_aload_n C 0 dX7_readField_0 rfl rfl ?_
  refine x_get (v := .ref ((xXE X).2.2 + 3)) C 0 cls_X7 at_X7 (by decide) wd218 rfl (xV_r (rt_X7_scanner  _) rfl) dX7_readField_1 ?_
  refine x_callV C (ct_X10_keyword _ _ n σ) mt_X10_keyword vr_X10_keyword wd749 cls_X10 at_X10 rfl ⟨rfl, rfl, Nat.le_of_ble_eq_true rfl, Nat.le_of_ble_eq_true rfl⟩ rfl (by decide) dX7_readField_4 (kW (fun v1 => ?_))
  refine x_wd (fun hw2 => ?_)
  refine x_aload_n C 1 dX7_readField_7 rfl rfl ?_
  refine x_join (fun J => ∀ q6 : xS, WO X Qf WW q6 16 [(0, .ref ((xXE X).2.2 + 2)), (2, iV p2), (3, iV p3)] [] (J q6)) ?_ ?_
  · intro q6
    refine x_aload_n C 0 dX7_readField_16 rfl rfl ?_
    refine x_callV C (ct_X7_failed _ _ q6) mt_X7_failed vr_X7_failed wd832 cls_X7 at_X7 rfl ⟨rfl, rfl, Nat.le_of_ble_eq_true rfl, Nat.le_of_ble_eq_true rfl⟩ rfl (by decide) dX7_readField_17 (kP ?_)
    refine x_if_eq C 25 (zI_bo (bo_X7_failed _)) dX7_readField_20 rfl (fun c7 => x_op c7 ?_) (fun c7 => x_on c7 ?_)
    · refine x_aload_n C 0 dX7_readField_25 rfl rfl ?_
      refine x_get (v := .ref ((xXE X).2.2 + 3)) C 0 cls_X7 at_X7 (by decide) wd218 rfl (xV_r (rt_X7_scanner  _) rfl) dX7_readField_26 ?_
      refine x_callV C (ct_X10_next _ _ n q6) mt_X10_next vr_X10_next wd819 cls_X10 at_X10 rfl ⟨rfl, rfl, Nat.le_of_ble_eq_true rfl, Nat.le_of_ble_eq_true rfl⟩ rfl (by decide) dX7_readField_29 (kV (fun s8 => ?_))
      refine x_aload_n C 0 dX7_readField_32 rfl rfl ?_
      refine x_iload_n C 1 dX7_readField_33 rfl rfl ?_
      refine x_iload_n C 2 dX7_readField_34 rfl rfl ?_
      refine x_callV C (ct_X7_readNumber _ _ n p2 p3 s8) mt_X7_readNumber vr_X7_readNumber wd820 cls_X7 at_X7 rfl ⟨rfl, rfl, Nat.le_of_ble_eq_true rfl, Nat.le_of_ble_eq_true rfl⟩ rfl (by decide) dX7_readField_35 (kS (fun v10 s9 => ?_))
      exact x_iretQ C (hQ _ _) rfl dX7_readField_38
    · refine x_iload_n C 1 dX7_readField_23 rfl rfl ?_
      exact x_iretQ C (hQ _ _) rfl dX7_readField_24
  · intro J4 hJ5
    refine x_acmpW_eq C hw2 (w_nn hp1) 16 dX7_readField_8 rfl (fun c11 => x_op c11 ?_) (fun c11 => x_on c11 ?_)
    · refine x_pick [0, 2, 3] rfl ?_
      exact hJ5 σ
    · refine x_aload_n C 0 dX7_readField_11 rfl rfl ?_
      refine x_iconst C (1) dX7_readField_12 rfl ?_
      refine x_callV C (ct_X7_fail _ _ 1 σ) mt_X7_fail vr_X7_fail wd803 cls_X7 at_X7 rfl ⟨rfl, rfl, Nat.le_of_ble_eq_true rfl, Nat.le_of_ble_eq_true rfl⟩ rfl (by decide) dX7_readField_13 (kV (fun s12 => ?_))
      refine x_pick [0, 2, 3] rfl ?_
      exact hJ5 s12
theorem ct_X7_readField (l : Launch) (E : xE) (n : Nat) (p1 : Int) (p2 : Int) (p3 : Int) (σ : xS) (hp1 : 0 ≤ p1 ∧ p1 < 24)  : xMet l E yX7_readField cX7_readField 4 (some .int) { frames := 6, cells := 0, slots := 0, locals := 132 } [.ref (E.2.2 + 2), wV E p1, iV p2, iV p3] WW WW σ (xrS (m_X7_readField n p1 p2 p3 σ)) := by
  refine xMet.of0 (by decide) (Nat.le_of_ble_eq_true rfl) rfl rfl (fun X hE C => ?_)
  subst hE
  exact xMap (fun q => (some (iV q.1), q.2)) (wk_X7_readField C (fun _ _ => rfl) hp1)
theorem mt_X7_readField : xMth yX7_readField cX7_readField 4 (some .int) 3 := ⟨wd868, wd152, ⟨by decide, by decide, rfl⟩⟩
theorem vr_X7_readField : xVir yX7_readField := ⟨wd867, wd13⟩
def m_X7_readDough (n : Nat) (k1 : Nat) (σ : xS) : Option xS :=
  xlet (σ k1 5) fun v1 => (m_X7_beginOneOf n 6 v1 σ).bind fun s2 => (m_X7_readNewName n 4 6 v1 s2).bind fun s3 => if (m_X7_failed s3) = 0 then xck (zI v1) 6 <| xbS (m_X7_readField n 5 1 120 s3) fun v7 s6 => xlet (xput s6 (k1 + 2 + (zI v1).toNat) 0 v7) fun s8 => xbS (m_X7_readField n 6 0 300 s8) fun v10 s9 => xlet (xput s9 (k1 + 2 + (zI v1).toNat) 1 v10) fun s11 => xbS (m_X7_readField n 7 1 120 s11) fun v13 s12 => xlet (xput s12 (k1 + 2 + (zI v1).toNat) 2 v13) fun s14 => xbS (m_X7_readField n 8 0 300 s14) fun v16 s15 => xlet (xput s15 (k1 + 2 + (zI v1).toNat) 3 v16) fun s17 => xbS (m_X7_readField n 9 0 240 s17) fun v19 s18 => xlet (xput s18 (k1 + 2 + (zI v1).toNat) 4 v19) fun s20 => xbS (m_X7_readField n 10 1 120 s20) fun v22 s21 => xlet (xput s21 (k1 + 2 + (zI v1).toNat) 5 v22) fun s23 => xbS (m_X7_readField n 11 100 300 s23) fun v25 s24 => xlet (xput s24 (k1 + 2 + (zI v1).toNat) 6 v25) fun s26 => xbS (m_X7_readField n 12 5 200 s26) fun v28 s27 => xlet (xput s27 (k1 + 2 + (zI v1).toNat) 7 v28) fun s29 => xbS (m_X7_readField n 13 1 1440 s29) fun v31 s30 => xlet (xput s30 (k1 + 2 + (zI v1).toNat) 8 v31) fun s32 => xbS (m_X7_readField n 14 0 999 s32) fun v34 s33 => xlet (xput s33 (k1 + 2 + (zI v1).toNat) 9 v34) fun s35 => xlet (xput s35 k1 5 ((s35 k1 5) + 1)) fun s36 => some s36 else some s3
set_option maxHeartbeats 4000000 in
set_option maxRecDepth 100000 in
theorem wk_X7_readDough {X : xX} {Qf : xS → State → Prop} {n : Nat} {k1 : Nat} {σ : xS} (C : xCx X cX7_readDough "BakeryNight$Parser" none { frames := 8, cells := 0, slots := 0, locals := 174 } 4) (hQ : ∀ τ, Qf τ = xQf X WW (none, τ)) (hk1 : isBk k1) : WO X Qf WW σ 0 [(0, .ref ((xXE X).2.2 + 2)), (1, .ref ((xXE X).2.2 + k1))] [] (m_X7_readDough n k1 σ) := by
  unfold m_X7_readDough
  refine x_aload_n C 1 dX7_readDough_0 rfl rfl ?_
  refine x_get (v := iV (σ k1 5)) C 5 cls_X1 (at_X1 hk1) (by decide) wd460 rfl rfl dX7_readDough_1 ?_
  refine x_letI (fun v1 => ?_)
  refine x_istore_n (L' := [(2, _), (0, _), (1, _)]) C dX7_readDough_4 rfl (by decide) rfl ?_
  refine x_aload_n C 1 dX7_readDough_5 rfl rfl ?_
  refine x_bipush C (6) dX7_readDough_6 rfl ?_
  refine x_iload_n C 0 dX7_readDough_8 rfl rfl ?_
  refine x_callV C (ct_X7_beginOneOf _ _ n 6 v1 σ) mt_X7_beginOneOf vr_X7_beginOneOf wd840 cls_X7 at_X7 rfl ⟨rfl, rfl, Nat.le_of_ble_eq_true rfl, Nat.le_of_ble_eq_true rfl⟩ rfl (by decide) dX7_readDough_9 (kV (fun s2 => ?_))
  refine x_aload_n C 1 dX7_readDough_12 rfl rfl ?_
  refine x_aload_n C 1 dX7_readDough_13 rfl rfl ?_
  refine x_get (v := .ref ((xXE X).2.2 + 4)) C 1 cls_X7 at_X7 (by decide) wd219 rfl (xV_r (rt_X7_doughNames  _) rfl) dX7_readDough_14 ?_
  refine x_iload_n C 0 dX7_readDough_17 rfl rfl ?_
  refine x_callV C (ct_X7_readNewName _ _ n 4 6 v1 s2 at_X7_doughNames) mt_X7_readNewName vr_X7_readNewName wd844 cls_X7 at_X7 rfl ⟨rfl, rfl, Nat.le_of_ble_eq_true rfl, Nat.le_of_ble_eq_true rfl⟩ rfl (by decide) dX7_readDough_18 (kV (fun s3 => ?_))
  refine x_aload_n C 1 dX7_readDough_21 rfl rfl ?_
  refine x_callV C (ct_X7_failed _ _ s3) mt_X7_failed vr_X7_failed wd832 cls_X7 at_X7 rfl ⟨rfl, rfl, Nat.le_of_ble_eq_true rfl, Nat.le_of_ble_eq_true rfl⟩ rfl (by decide) dX7_readDough_22 (kP ?_)
  refine x_if_eq C 29 (zI_bo (bo_X7_failed _)) dX7_readDough_25 rfl (fun c4 => x_op c4 ?_) (fun c4 => x_on c4 ?_)
  · refine x_aload_n C 2 dX7_readDough_29 rfl rfl ?_
    refine x_get (v := .ref ((xXE X).2.2 + (k1 + 1))) C 4 cls_X1 (at_X1 hk1) (by decide) wd455 rfl (xV_r (rt_X1_doughs hk1 _) rfl) dX7_readDough_30 ?_
    refine x_iload_n C 0 dX7_readDough_33 rfl rfl ?_
    refine x_aald C (at_X1_doughs hk1) (by decide) rfl (fun h5 => rl_X1_doughs hk1 _ h5) dX7_readDough_34 (fun h5 => ?_)
    refine x_astore_n (L' := [(3, _), (2, _), (0, _), (1, _)]) C dX7_readDough_35 rfl (by decide) rfl ?_
    refine x_aload_n C 0 dX7_readDough_36 rfl rfl ?_
    refine x_aload_n C 2 dX7_readDough_37 rfl rfl ?_
    refine x_gsW C 5 (by decide) wd863 dX7_readDough_38 ?_
    refine x_iconst C (1) dX7_readDough_41 rfl ?_
    refine x_bipush C (120) dX7_readDough_42 rfl ?_
    refine x_callV C (ct_X7_readField _ _ n 5 1 120 s3 (by decide)) mt_X7_readField vr_X7_readField wd865 cls_X7 at_X7 rfl ⟨rfl, rfl, Nat.le_of_ble_eq_true rfl, Nat.le_of_ble_eq_true rfl⟩ rfl (Nat.le_of_ble_eq_true rfl) dX7_readDough_44 (kS (fun v7 s6 => ?_))
    refine x_put C 0 v7 cls_X2 (el_X1_doughs hk1 h5) (by decide) wd262 rfl rfl rfl rfl (xV_pI rfl) dX7_readDough_47 ?_
    refine x_letS (fun s8 => ?_)
    refine x_aload_n C 0 dX7_readDough_50 rfl rfl ?_
    refine x_aload_n C 2 dX7_readDough_51 rfl rfl ?_
    refine x_gsW C 6 (by decide) wd869 dX7_readDough_52 ?_
    refine x_iconst C (0) dX7_readDough_55 rfl ?_
    refine x_sipush C (300) dX7_readDough_56 rfl ?_
    refine x_callV C (ct_X7_readField _ _ n 6 0 300 s8 (by decide)) mt_X7_readField vr_X7_readField wd865 cls_X7 at_X7 rfl ⟨rfl, rfl, Nat.le_of_ble_eq_true rfl, Nat.le_of_ble_eq_true rfl⟩ rfl (Nat.le_of_ble_eq_true rfl) dX7_readDough_59 (kS (fun v10 s9 => ?_))
    refine x_put C 1 v10 cls_X2 (el_X1_doughs hk1 h5) (by decide) wd264 rfl rfl rfl rfl (xV_pI rfl) dX7_readDough_62 ?_
    refine x_letS (fun s11 => ?_)
    refine x_aload_n C 0 dX7_readDough_65 rfl rfl ?_
    refine x_aload_n C 2 dX7_readDough_66 rfl rfl ?_
    refine x_gsW C 7 (by decide) wd871 dX7_readDough_67 ?_
    refine x_iconst C (1) dX7_readDough_70 rfl ?_
    refine x_bipush C (120) dX7_readDough_71 rfl ?_
    refine x_callV C (ct_X7_readField _ _ n 7 1 120 s11 (by decide)) mt_X7_readField vr_X7_readField wd865 cls_X7 at_X7 rfl ⟨rfl, rfl, Nat.le_of_ble_eq_true rfl, Nat.le_of_ble_eq_true rfl⟩ rfl (Nat.le_of_ble_eq_true rfl) dX7_readDough_73 (kS (fun v13 s12 => ?_))
    refine x_put C 2 v13 cls_X2 (el_X1_doughs hk1 h5) (by decide) wd267 rfl rfl rfl rfl (xV_pI rfl) dX7_readDough_76 ?_
    refine x_letS (fun s14 => ?_)
    refine x_aload_n C 0 dX7_readDough_79 rfl rfl ?_
    refine x_aload_n C 2 dX7_readDough_80 rfl rfl ?_
    refine x_gsW C 8 (by decide) wd873 dX7_readDough_81 ?_
    refine x_iconst C (0) dX7_readDough_84 rfl ?_
    refine x_sipush C (300) dX7_readDough_85 rfl ?_
    refine x_callV C (ct_X7_readField _ _ n 8 0 300 s14 (by decide)) mt_X7_readField vr_X7_readField wd865 cls_X7 at_X7 rfl ⟨rfl, rfl, Nat.le_of_ble_eq_true rfl, Nat.le_of_ble_eq_true rfl⟩ rfl (Nat.le_of_ble_eq_true rfl) dX7_readDough_88 (kS (fun v16 s15 => ?_))
    refine x_put C 3 v16 cls_X2 (el_X1_doughs hk1 h5) (by decide) wd269 rfl rfl rfl rfl (xV_pI rfl) dX7_readDough_91 ?_
    refine x_letS (fun s17 => ?_)
    refine x_aload_n C 0 dX7_readDough_94 rfl rfl ?_
    refine x_aload_n C 2 dX7_readDough_95 rfl rfl ?_
    refine x_gsW C 9 (by decide) wd875 dX7_readDough_96 ?_
    refine x_iconst C (0) dX7_readDough_99 rfl ?_
    refine x_sipush C (240) dX7_readDough_100 rfl ?_
    refine x_callV C (ct_X7_readField _ _ n 9 0 240 s17 (by decide)) mt_X7_readField vr_X7_readField wd865 cls_X7 at_X7 rfl ⟨rfl, rfl, Nat.le_of_ble_eq_true rfl, Nat.le_of_ble_eq_true rfl⟩ rfl (Nat.le_of_ble_eq_true rfl) dX7_readDough_103 (kS (fun v19 s18 => ?_))
    refine x_put C 4 v19 cls_X2 (el_X1_doughs hk1 h5) (by decide) wd273 rfl rfl rfl rfl (xV_pI rfl) dX7_readDough_106 ?_
    refine x_letS (fun s20 => ?_)
    refine x_aload_n C 0 dX7_readDough_109 rfl rfl ?_
    refine x_aload_n C 2 dX7_readDough_110 rfl rfl ?_
    refine x_gsW C 10 (by decide) wd877 dX7_readDough_111 ?_
    refine x_iconst C (1) dX7_readDough_114 rfl ?_
    refine x_bipush C (120) dX7_readDough_115 rfl ?_
    refine x_callV C (ct_X7_readField _ _ n 10 1 120 s20 (by decide)) mt_X7_readField vr_X7_readField wd865 cls_X7 at_X7 rfl ⟨rfl, rfl, Nat.le_of_ble_eq_true rfl, Nat.le_of_ble_eq_true rfl⟩ rfl (Nat.le_of_ble_eq_true rfl) dX7_readDough_117 (kS (fun v22 s21 => ?_))
    refine x_put C 5 v22 cls_X2 (el_X1_doughs hk1 h5) (by decide) wd275 rfl rfl rfl rfl (xV_pI rfl) dX7_readDough_120 ?_
    refine x_letS (fun s23 => ?_)
    refine x_aload_n C 0 dX7_readDough_123 rfl rfl ?_
    refine x_aload_n C 2 dX7_readDough_124 rfl rfl ?_
    refine x_gsW C 11 (by decide) wd879 dX7_readDough_125 ?_
    refine x_bipush C (100) dX7_readDough_128 rfl ?_
    refine x_sipush C (300) dX7_readDough_130 rfl ?_
    refine x_callV C (ct_X7_readField _ _ n 11 100 300 s23 (by decide)) mt_X7_readField vr_X7_readField wd865 cls_X7 at_X7 rfl ⟨rfl, rfl, Nat.le_of_ble_eq_true rfl, Nat.le_of_ble_eq_true rfl⟩ rfl (Nat.le_of_ble_eq_true rfl) dX7_readDough_133 (kS (fun v25 s24 => ?_))
    refine x_put C 6 v25 cls_X2 (el_X1_doughs hk1 h5) (by decide) wd277 rfl rfl rfl rfl (xV_pI rfl) dX7_readDough_136 ?_
    refine x_letS (fun s26 => ?_)
    refine x_aload_n C 0 dX7_readDough_139 rfl rfl ?_
    refine x_aload_n C 2 dX7_readDough_140 rfl rfl ?_
    refine x_gsW C 12 (by decide) wd881 dX7_readDough_141 ?_
    refine x_iconst C (5) dX7_readDough_144 rfl ?_
    refine x_sipush C (200) dX7_readDough_145 rfl ?_
    refine x_callV C (ct_X7_readField _ _ n 12 5 200 s26 (by decide)) mt_X7_readField vr_X7_readField wd865 cls_X7 at_X7 rfl ⟨rfl, rfl, Nat.le_of_ble_eq_true rfl, Nat.le_of_ble_eq_true rfl⟩ rfl (Nat.le_of_ble_eq_true rfl) dX7_readDough_148 (kS (fun v28 s27 => ?_))
    refine x_put C 7 v28 cls_X2 (el_X1_doughs hk1 h5) (by decide) wd278 rfl rfl rfl rfl (xV_pI rfl) dX7_readDough_151 ?_
    refine x_letS (fun s29 => ?_)
    refine x_aload_n C 0 dX7_readDough_154 rfl rfl ?_
    refine x_aload_n C 2 dX7_readDough_155 rfl rfl ?_
    refine x_gsW C 13 (by decide) wd883 dX7_readDough_156 ?_
    refine x_iconst C (1) dX7_readDough_159 rfl ?_
    refine x_sipush C (1440) dX7_readDough_160 rfl ?_
    refine x_callV C (ct_X7_readField _ _ n 13 1 1440 s29 (by decide)) mt_X7_readField vr_X7_readField wd865 cls_X7 at_X7 rfl ⟨rfl, rfl, Nat.le_of_ble_eq_true rfl, Nat.le_of_ble_eq_true rfl⟩ rfl (Nat.le_of_ble_eq_true rfl) dX7_readDough_163 (kS (fun v31 s30 => ?_))
    refine x_put C 8 v31 cls_X2 (el_X1_doughs hk1 h5) (by decide) wd281 rfl rfl rfl rfl (xV_pI rfl) dX7_readDough_166 ?_
    refine x_letS (fun s32 => ?_)
    refine x_aload_n C 0 dX7_readDough_169 rfl rfl ?_
    refine x_aload_n C 2 dX7_readDough_170 rfl rfl ?_
    refine x_gsW C 14 (by decide) wd885 dX7_readDough_171 ?_
    refine x_iconst C (0) dX7_readDough_174 rfl ?_
    refine x_sipush C (999) dX7_readDough_175 rfl ?_
    refine x_callV C (ct_X7_readField _ _ n 14 0 999 s32 (by decide)) mt_X7_readField vr_X7_readField wd865 cls_X7 at_X7 rfl ⟨rfl, rfl, Nat.le_of_ble_eq_true rfl, Nat.le_of_ble_eq_true rfl⟩ rfl (Nat.le_of_ble_eq_true rfl) dX7_readDough_178 (kS (fun v34 s33 => ?_))
    refine x_put C 9 v34 cls_X2 (el_X1_doughs hk1 h5) (by decide) wd284 rfl rfl rfl rfl (xV_pI rfl) dX7_readDough_181 ?_
    refine x_letS (fun s35 => ?_)
    refine x_aload_n C 3 dX7_readDough_184 rfl rfl ?_
    refine x_dup C dX7_readDough_185 rfl ?_
    refine x_get (v := iV (s35 k1 5)) C 5 cls_X1 (at_X1 hk1) (by decide) wd460 rfl rfl dX7_readDough_186 ?_
    refine x_iconst C (1) dX7_readDough_189 rfl ?_
    refine x_iadd C dX7_readDough_190 ?_
    refine x_put C 5 ((s35 k1 5) + 1) cls_X1 (at_X1 hk1) (by decide) wd460 rfl rfl rfl rfl (xV_pI rfl) dX7_readDough_191 ?_
    refine x_letS (fun s36 => ?_)
    exact x_vretQ C (hQ _) rfl dX7_readDough_194
  · exact x_vretQ C (hQ _) rfl dX7_readDough_28
theorem ct_X7_readDough (l : Launch) (E : xE) (n : Nat) (k1 : Nat) (σ : xS) (hk1 : isBk k1)  : xMet l E yX7_readDough cX7_readDough 4 none { frames := 8, cells := 0, slots := 0, locals := 174 } [.ref (E.2.2 + 2), .ref (E.2.2 + k1)] WW WW σ (xrV (m_X7_readDough n k1 σ)) := by
  refine xMet.of0 (by decide) (Nat.le_of_ble_eq_true rfl) rfl rfl (fun X hE C => ?_)
  subst hE
  exact xMap (fun q => (none, q)) (wk_X7_readDough C (fun _ => rfl) hk1)
theorem mt_X7_readDough : xMth yX7_readDough cX7_readDough 4 none 1 := ⟨wd839, wd152, ⟨by decide, by decide, rfl⟩⟩
theorem vr_X7_readDough : xVir yX7_readDough := ⟨wd838, wd9⟩
def m_X7_readOven (n : Nat) (k1 : Nat) (σ : xS) : Option xS :=
  xlet (σ k1 7) fun v1 => (m_X7_beginOneOf n 4 v1 σ).bind fun s2 => if (m_X7_failed s2) = 0 then xck (zI v1) 4 <| xbS (m_X7_readField n 16 1 6 s2) fun v6 s5 => xlet (xput s5 (k1 + 9 + (zI v1).toNat) 0 v6) fun s7 => xbS (m_X7_readField n 11 20 300 s7) fun v9 s8 => xlet (xput s8 (k1 + 9 + (zI v1).toNat) 1 v9) fun s10 => xbS (m_X7_readField n 17 1 50 s10) fun v12 s11 => xlet (xput s11 (k1 + 9 + (zI v1).toNat) 2 v12) fun s13 => xlet (xput s13 (k1 + 9 + (zI v1).toNat) 3 0) fun s14 => xlet (xput s14 k1 7 ((s14 k1 7) + 1)) fun s15 => some s15 else some s2
set_option maxHeartbeats 4000000 in
set_option maxRecDepth 100000 in
theorem wk_X7_readOven {X : xX} {Qf : xS → State → Prop} {n : Nat} {k1 : Nat} {σ : xS} (C : xCx X cX7_readOven "BakeryNight$Parser" none { frames := 7, cells := 0, slots := 0, locals := 155 } 4) (hQ : ∀ τ, Qf τ = xQf X WW (none, τ)) (hk1 : isBk k1) : WO X Qf WW σ 0 [(0, .ref ((xXE X).2.2 + 2)), (1, .ref ((xXE X).2.2 + k1))] [] (m_X7_readOven n k1 σ) := by
  unfold m_X7_readOven
  refine x_aload_n C 1 dX7_readOven_0 rfl rfl ?_
  refine x_get (v := iV (σ k1 7)) C 7 cls_X1 (at_X1 hk1) (by decide) wd469 rfl rfl dX7_readOven_1 ?_
  refine x_letI (fun v1 => ?_)
  refine x_istore_n (L' := [(2, _), (0, _), (1, _)]) C dX7_readOven_4 rfl (by decide) rfl ?_
  refine x_aload_n C 1 dX7_readOven_5 rfl rfl ?_
  refine x_iconst C (4) dX7_readOven_6 rfl ?_
  refine x_iload_n C 0 dX7_readOven_7 rfl rfl ?_
  refine x_callV C (ct_X7_beginOneOf _ _ n 4 v1 σ) mt_X7_beginOneOf vr_X7_beginOneOf wd840 cls_X7 at_X7 rfl ⟨rfl, rfl, Nat.le_of_ble_eq_true rfl, Nat.le_of_ble_eq_true rfl⟩ rfl (by decide) dX7_readOven_8 (kV (fun s2 => ?_))
  refine x_aload_n C 1 dX7_readOven_11 rfl rfl ?_
  refine x_callV C (ct_X7_failed _ _ s2) mt_X7_failed vr_X7_failed wd832 cls_X7 at_X7 rfl ⟨rfl, rfl, Nat.le_of_ble_eq_true rfl, Nat.le_of_ble_eq_true rfl⟩ rfl (by decide) dX7_readOven_12 (kP ?_)
  refine x_if_eq C 19 (zI_bo (bo_X7_failed _)) dX7_readOven_15 rfl (fun c3 => x_op c3 ?_) (fun c3 => x_on c3 ?_)
  · refine x_aload_n C 2 dX7_readOven_19 rfl rfl ?_
    refine x_get (v := .ref ((xXE X).2.2 + (k1 + 8))) C 6 cls_X1 (at_X1 hk1) (by decide) wd465 rfl (xV_r (rt_X1_ovens hk1 _) rfl) dX7_readOven_20 ?_
    refine x_iload_n C 0 dX7_readOven_23 rfl rfl ?_
    refine x_aald C (at_X1_ovens hk1) (by decide) rfl (fun h4 => rl_X1_ovens hk1 _ h4) dX7_readOven_24 (fun h4 => ?_)
    refine x_astore_n (L' := [(3, _), (2, _), (0, _), (1, _)]) C dX7_readOven_25 rfl (by decide) rfl ?_
    refine x_aload_n C 0 dX7_readOven_26 rfl rfl ?_
    refine x_aload_n C 2 dX7_readOven_27 rfl rfl ?_
    refine x_gsW C 16 (by decide) wd891 dX7_readOven_28 ?_
    refine x_iconst C (1) dX7_readOven_31 rfl ?_
    refine x_bipush C (6) dX7_readOven_32 rfl ?_
    refine x_callV C (ct_X7_readField _ _ n 16 1 6 s2 (by decide)) mt_X7_readField vr_X7_readField wd865 cls_X7 at_X7 rfl ⟨rfl, rfl, Nat.le_of_ble_eq_true rfl, Nat.le_of_ble_eq_true rfl⟩ rfl (Nat.le_of_ble_eq_true rfl) dX7_readOven_34 (kS (fun v6 s5 => ?_))
    refine x_put C 0 v6 cls_X6 (el_X1_ovens hk1 h4) (by decide) wd315 rfl rfl rfl rfl (xV_pI rfl) dX7_readOven_37 ?_
    refine x_letS (fun s7 => ?_)
    refine x_aload_n C 0 dX7_readOven_40 rfl rfl ?_
    refine x_aload_n C 2 dX7_readOven_41 rfl rfl ?_
    refine x_gsW C 11 (by decide) wd879 dX7_readOven_42 ?_
    refine x_bipush C (20) dX7_readOven_45 rfl ?_
    refine x_sipush C (300) dX7_readOven_47 rfl ?_
    refine x_callV C (ct_X7_readField _ _ n 11 20 300 s7 (by decide)) mt_X7_readField vr_X7_readField wd865 cls_X7 at_X7 rfl ⟨rfl, rfl, Nat.le_of_ble_eq_true rfl, Nat.le_of_ble_eq_true rfl⟩ rfl (Nat.le_of_ble_eq_true rfl) dX7_readOven_50 (kS (fun v9 s8 => ?_))
    refine x_put C 1 v9 cls_X6 (el_X1_ovens hk1 h4) (by decide) wd318 rfl rfl rfl rfl (xV_pI rfl) dX7_readOven_53 ?_
    refine x_letS (fun s10 => ?_)
    refine x_aload_n C 0 dX7_readOven_56 rfl rfl ?_
    refine x_aload_n C 2 dX7_readOven_57 rfl rfl ?_
    refine x_gsW C 17 (by decide) wd893 dX7_readOven_58 ?_
    refine x_iconst C (1) dX7_readOven_61 rfl ?_
    refine x_bipush C (50) dX7_readOven_62 rfl ?_
    refine x_callV C (ct_X7_readField _ _ n 17 1 50 s10 (by decide)) mt_X7_readField vr_X7_readField wd865 cls_X7 at_X7 rfl ⟨rfl, rfl, Nat.le_of_ble_eq_true rfl, Nat.le_of_ble_eq_true rfl⟩ rfl (Nat.le_of_ble_eq_true rfl) dX7_readOven_64 (kS (fun v12 s11 => ?_))
    refine x_put C 2 v12 cls_X6 (el_X1_ovens hk1 h4) (by decide) wd320 rfl rfl rfl rfl (xV_pI rfl) dX7_readOven_67 ?_
    refine x_letS (fun s13 => ?_)
    refine x_aload_n C 0 dX7_readOven_70 rfl rfl ?_
    refine x_iconst C (0) dX7_readOven_71 rfl ?_
    refine x_put C 3 0 cls_X6 (el_X1_ovens hk1 h4) (by decide) wd323 rfl rfl (xnb (Or.inl rfl)) (xfb (Or.inl rfl)) (xV_pI rfl) dX7_readOven_72 ?_
    refine x_letS (fun s14 => ?_)
    refine x_aload_n C 3 dX7_readOven_75 rfl rfl ?_
    refine x_dup C dX7_readOven_76 rfl ?_
    refine x_get (v := iV (s14 k1 7)) C 7 cls_X1 (at_X1 hk1) (by decide) wd469 rfl rfl dX7_readOven_77 ?_
    refine x_iconst C (1) dX7_readOven_80 rfl ?_
    refine x_iadd C dX7_readOven_81 ?_
    refine x_put C 7 ((s14 k1 7) + 1) cls_X1 (at_X1 hk1) (by decide) wd469 rfl rfl rfl rfl (xV_pI rfl) dX7_readOven_82 ?_
    refine x_letS (fun s15 => ?_)
    exact x_vretQ C (hQ _) rfl dX7_readOven_85
  · exact x_vretQ C (hQ _) rfl dX7_readOven_18
theorem ct_X7_readOven (l : Launch) (E : xE) (n : Nat) (k1 : Nat) (σ : xS) (hk1 : isBk k1)  : xMet l E yX7_readOven cX7_readOven 4 none { frames := 7, cells := 0, slots := 0, locals := 155 } [.ref (E.2.2 + 2), .ref (E.2.2 + k1)] WW WW σ (xrV (m_X7_readOven n k1 σ)) := by
  refine xMet.of0 (by decide) (Nat.le_of_ble_eq_true rfl) rfl rfl (fun X hE C => ?_)
  subst hE
  exact xMap (fun q => (none, q)) (wk_X7_readOven C (fun _ => rfl) hk1)
theorem mt_X7_readOven : xMth yX7_readOven cX7_readOven 4 none 1 := ⟨wd890, wd152, ⟨by decide, by decide, rfl⟩⟩
theorem vr_X7_readOven : xVir yX7_readOven := ⟨wd889, wd14⟩
def m_X7_readShop (n : Nat) (k1 : Nat) (σ : xS) : Option xS :=
  (m_X7_beginOneOf n 7 (σ k1 8) σ).bind fun s1 => (m_X7_readNewName n 5 7 (s1 k1 8) s1).bind fun s2 => xj (fun (q5 : xS) => some q5) fun J3 => if (m_X7_failed s2) = 0 then xlet (xput s2 k1 8 ((s2 k1 8) + 1)) fun s7 => J3 s7 else J3 s2
set_option maxHeartbeats 4000000 in
set_option maxRecDepth 100000 in
theorem wk_X7_readShop {X : xX} {Qf : xS → State → Prop} {n : Nat} {k1 : Nat} {σ : xS} (C : xCx X cX7_readShop "BakeryNight$Parser" none { frames := 8, cells := 0, slots := 0, locals := 174 } 2) (hQ : ∀ τ, Qf τ = xQf X WW (none, τ)) (hk1 : isBk k1) : WO X Qf WW σ 0 [(0, .ref ((xXE X).2.2 + 2)), (1, .ref ((xXE X).2.2 + k1))] [] (m_X7_readShop n k1 σ) := by
  unfold m_X7_readShop
  refine x_aload_n C 0 dX7_readShop_0 rfl rfl ?_
  refine x_bipush C (7) dX7_readShop_1 rfl ?_
  refine x_aload_n C 1 dX7_readShop_3 rfl rfl ?_
  refine x_get (v := iV (σ k1 8)) C 8 cls_X1 (at_X1 hk1) (by decide) wd471 rfl rfl dX7_readShop_4 ?_
  refine x_callV C (ct_X7_beginOneOf _ _ n 7 (σ k1 8) σ) mt_X7_beginOneOf vr_X7_beginOneOf wd840 cls_X7 at_X7 rfl ⟨rfl, rfl, Nat.le_of_ble_eq_true rfl, Nat.le_of_ble_eq_true rfl⟩ rfl (by decide) dX7_readShop_7 (kV (fun s1 => ?_))
  refine x_aload_n C 0 dX7_readShop_10 rfl rfl ?_
  refine x_aload_n C 0 dX7_readShop_11 rfl rfl ?_
  refine x_get (v := .ref ((xXE X).2.2 + 5)) C 2 cls_X7 at_X7 (by decide) wd220 rfl (xV_r (rt_X7_shopNames  _) rfl) dX7_readShop_12 ?_
  refine x_aload_n C 1 dX7_readShop_15 rfl rfl ?_
  refine x_get (v := iV (s1 k1 8)) C 8 cls_X1 (at_X1 hk1) (by decide) wd471 rfl rfl dX7_readShop_16 ?_
  refine x_callV C (ct_X7_readNewName _ _ n 5 7 (s1 k1 8) s1 at_X7_shopNames) mt_X7_readNewName vr_X7_readNewName wd844 cls_X7 at_X7 rfl ⟨rfl, rfl, Nat.le_of_ble_eq_true rfl, Nat.le_of_ble_eq_true rfl⟩ rfl (by decide) dX7_readShop_19 (kV (fun s2 => ?_))
  refine x_aload_n C 0 dX7_readShop_22 rfl rfl ?_
  refine x_callV C (ct_X7_failed _ _ s2) mt_X7_failed vr_X7_failed wd832 cls_X7 at_X7 rfl ⟨rfl, rfl, Nat.le_of_ble_eq_true rfl, Nat.le_of_ble_eq_true rfl⟩ rfl (by decide) dX7_readShop_23 (kP ?_)
  refine x_join (fun J => ∀ q5 : xS, WO X Qf WW q5 39 [] [] (J q5)) ?_ ?_
  · intro q5
    exact x_vretQ C (hQ _) rfl dX7_readShop_39
  · intro J3 hJ4
    refine x_if_ne C 39 (zI_bo (bo_X7_failed _)) dX7_readShop_26 rfl (fun c6 => x_on c6 ?_) (fun c6 => x_op c6 ?_)
    · refine x_pick [] rfl ?_
      exact hJ4 s2
    · refine x_aload_n C 1 dX7_readShop_29 rfl rfl ?_
      refine x_dup C dX7_readShop_30 rfl ?_
      refine x_get (v := iV (s2 k1 8)) C 8 cls_X1 (at_X1 hk1) (by decide) wd471 rfl rfl dX7_readShop_31 ?_
      refine x_iconst C (1) dX7_readShop_34 rfl ?_
      refine x_iadd C dX7_readShop_35 ?_
      refine x_put C 8 ((s2 k1 8) + 1) cls_X1 (at_X1 hk1) (by decide) wd471 rfl rfl rfl rfl (xV_pI rfl) dX7_readShop_36 ?_
      refine x_letS (fun s7 => ?_)
      refine x_pick [] rfl ?_
      exact hJ4 s7
theorem ct_X7_readShop (l : Launch) (E : xE) (n : Nat) (k1 : Nat) (σ : xS) (hk1 : isBk k1)  : xMet l E yX7_readShop cX7_readShop 2 none { frames := 8, cells := 0, slots := 0, locals := 174 } [.ref (E.2.2 + 2), .ref (E.2.2 + k1)] WW WW σ (xrV (m_X7_readShop n k1 σ)) := by
  refine xMet.of0 (by decide) (Nat.le_of_ble_eq_true rfl) rfl rfl (fun X hE C => ?_)
  subst hE
  exact xMap (fun q => (none, q)) (wk_X7_readShop C (fun _ => rfl) hk1)
theorem mt_X7_readShop : xMth yX7_readShop cX7_readShop 2 none 1 := ⟨wd898, wd152, ⟨by decide, by decide, rfl⟩⟩
theorem vr_X7_readShop : xVir yX7_readShop := ⟨wd897, wd15⟩
def m_X7_readPlace (n : Nat) (k1 : Nat) (p2 : Int) (σ : xS) : Option (Int × xS) :=
  xlet (-1) fun v1 => (m_X10_keyword n σ).bind fun v2 => xwd v2 <| xj (fun (q7 : Int × xS) => xj (fun (q11 : xS) => xj (fun (q15 : xS) => some (q7.1, q15)) fun J13 => if (m_X7_failed q11) = 0 then (m_X10_next n q11).bind fun s17 => J13 s17 else J13 q11) fun J9 => if (zI q7.1) = (zI p2) then (m_X7_fail 3 q7.2).bind fun s19 => J9 s19 else J9 q7.2) fun J5 => if v2 = 23 then J5 (7, σ) else (m_X10_isName n σ).bind fun v21 => if (zI v21) = 0 then (m_X7_fail 1 σ).bind fun s26 => J5 (v1, s26) else (m_X7_indexOfName n 5 7 (σ k1 8) σ).bind fun v23 => if (zI v23) = (-1) then (m_X7_fail 4 σ).bind fun s25 => J5 (v23, s25) else J5 (v23, σ)
set_option maxHeartbeats 4000000 in
set_option maxRecDepth 100000 in
theorem wk_X7_readPlace {X : xX} {Qf : (Int × xS) → State → Prop} {n : Nat} {k1 : Nat} {p2 : Int} {σ : xS} (C : xCx X cX7_readPlace "BakeryNight$Parser" (some .int) { frames := 7, cells := 0, slots := 0, locals := 152 } 4) (hQ : ∀ v τ, Qf (v, τ) = xQf X WW (some (iV v), τ)) (hk1 : isBk k1) : WO X Qf WW σ 0 [(0, .ref ((xXE X).2.2 + 2)), (1, .ref ((xXE X).2.2 + k1)), (2, iV p2)] [] (m_X7_readPlace n k1 p2 σ) := by
  unfold m_X7_readPlace
  refine x_iconst C (-1) dX7_readPlace_0 rfl ?_
  refine x_letI (fun v1 => ?_)
  refine x_istore_n (L' := [(3, _), (0, _), (1, _), (2, _)]) C dX7_readPlace_1 rfl (by decide) rfl ?_
  refine x_aload_n C 1 dX7_readPlace_2 rfl rfl ?_
  refine x_get (v := .ref ((xXE X).2.2 + 3)) C 0 cls_X7 at_X7 (by decide) wd218 rfl (xV_r (rt_X7_scanner  _) rfl) dX7_readPlace_3 ?_
  refine x_callV C (ct_X10_keyword _ _ n σ) mt_X10_keyword vr_X10_keyword wd749 cls_X10 at_X10 rfl ⟨rfl, rfl, Nat.le_of_ble_eq_true rfl, Nat.le_of_ble_eq_true rfl⟩ rfl (by decide) dX7_readPlace_6 (kW (fun v2 => ?_))
  refine x_wd (fun hw3 => ?_)
  refine x_gsW C 23 (by decide) wd907 dX7_readPlace_9 ?_
  refine x_join (fun J => ∀ q7 : Int × xS, WO X Qf WW q7.2 62 [(0, .ref ((xXE X).2.2 + 2)), (2, iV p2), (3, iV q7.1)] [] (J q7)) ?_ ?_
  · intro q7
    refine x_iload_n C 2 dX7_readPlace_62 rfl rfl ?_
    refine x_iload_n C 1 dX7_readPlace_63 rfl rfl ?_
    refine x_join (fun J => ∀ q11 : xS, WO X Qf WW q11 72 [(0, .ref ((xXE X).2.2 + 2)), (3, iV q7.1)] [] (J q11)) ?_ ?_
    · intro q11
      refine x_aload_n C 0 dX7_readPlace_72 rfl rfl ?_
      refine x_callV C (ct_X7_failed _ _ q11) mt_X7_failed vr_X7_failed wd832 cls_X7 at_X7 rfl ⟨rfl, rfl, Nat.le_of_ble_eq_true rfl, Nat.le_of_ble_eq_true rfl⟩ rfl (by decide) dX7_readPlace_73 (kP ?_)
      refine x_join (fun J => ∀ q15 : xS, WO X Qf WW q15 86 [(3, iV q7.1)] [] (J q15)) ?_ ?_
      · intro q15
        refine x_iload_n C 0 dX7_readPlace_86 rfl rfl ?_
        exact x_iretQ C (hQ _ _) rfl dX7_readPlace_87
      · intro J13 hJ14
        refine x_if_ne C 86 (zI_bo (bo_X7_failed _)) dX7_readPlace_76 rfl (fun c16 => x_on c16 ?_) (fun c16 => x_op c16 ?_)
        · refine x_pick [1] rfl ?_
          exact hJ14 q11
        · refine x_aload_n C 0 dX7_readPlace_79 rfl rfl ?_
          refine x_get (v := .ref ((xXE X).2.2 + 3)) C 0 cls_X7 at_X7 (by decide) wd218 rfl (xV_r (rt_X7_scanner  _) rfl) dX7_readPlace_80 ?_
          refine x_callV C (ct_X10_next _ _ n q11) mt_X10_next vr_X10_next wd819 cls_X10 at_X10 rfl ⟨rfl, rfl, Nat.le_of_ble_eq_true rfl, Nat.le_of_ble_eq_true rfl⟩ rfl (by decide) dX7_readPlace_83 (kV (fun s17 => ?_))
          refine x_pick [1] rfl ?_
          exact hJ14 s17
    · intro J9 hJ10
      refine x_icmp_ne C 72 rfl rfl dX7_readPlace_64 rfl (fun c18 => x_on c18 ?_) (fun c18 => x_op c18 ?_)
      · refine x_pick [0, 2] rfl ?_
        exact hJ10 q7.2
      · refine x_aload_n C 0 dX7_readPlace_67 rfl rfl ?_
        refine x_iconst C (3) dX7_readPlace_68 rfl ?_
        refine x_callV C (ct_X7_fail _ _ 3 q7.2) mt_X7_fail vr_X7_fail wd803 cls_X7 at_X7 rfl ⟨rfl, rfl, Nat.le_of_ble_eq_true rfl, Nat.le_of_ble_eq_true rfl⟩ rfl (by decide) dX7_readPlace_69 (kV (fun s19 => ?_))
        refine x_pick [0, 2] rfl ?_
        exact hJ10 s19
  · intro J5 hJ6
    refine x_acmpW_ne C hw3 (by decide) 21 dX7_readPlace_12 rfl (fun c20 => x_on c20 ?_) (fun c20 => x_op c20 ?_)
    · refine x_aload_n C 1 dX7_readPlace_21 rfl rfl ?_
      refine x_get (v := .ref ((xXE X).2.2 + 3)) C 0 cls_X7 at_X7 (by decide) wd218 rfl (xV_r (rt_X7_scanner  _) rfl) dX7_readPlace_22 ?_
      refine x_callV C (ct_X10_isName _ _ n σ) mt_X10_isName vr_X10_isName wd848 cls_X10 at_X10 rfl ⟨rfl, rfl, Nat.le_of_ble_eq_true rfl, Nat.le_of_ble_eq_true rfl⟩ rfl (by decide) dX7_readPlace_25 (kI (fun v21 => ?_))
      refine x_if_ne C 39 rfl dX7_readPlace_28 rfl (fun c22 => x_on c22 ?_) (fun c22 => x_op c22 ?_)
      · refine x_aload_n C 1 dX7_readPlace_39 rfl rfl ?_
        refine x_aload_n C 1 dX7_readPlace_40 rfl rfl ?_
        refine x_get (v := .ref ((xXE X).2.2 + 5)) C 2 cls_X7 at_X7 (by decide) wd220 rfl (xV_r (rt_X7_shopNames  _) rfl) dX7_readPlace_41 ?_
        refine x_aload_n C 2 dX7_readPlace_44 rfl rfl ?_
        refine x_get (v := iV (σ k1 8)) C 8 cls_X1 (at_X1 hk1) (by decide) wd471 rfl rfl dX7_readPlace_45 ?_
        refine x_callV C (ct_X7_indexOfName _ _ n 5 7 (σ k1 8) σ at_X7_shopNames) mt_X7_indexOfName vr_X7_indexOfName wd853 cls_X7 at_X7 rfl ⟨rfl, rfl, Nat.le_of_ble_eq_true rfl, Nat.le_of_ble_eq_true rfl⟩ rfl (by decide) dX7_readPlace_48 (kI (fun v23 => ?_))
        refine x_istore_n (L' := [(3, _), (0, _), (1, _), (2, _)]) C dX7_readPlace_51 rfl (by decide) rfl ?_
        refine x_iload_n C 0 dX7_readPlace_52 rfl rfl ?_
        refine x_iconst C (-1) dX7_readPlace_53 rfl ?_
        refine x_icmp_ne C 62 rfl (zIl _ rfl) dX7_readPlace_54 rfl (fun c24 => x_on c24 ?_) (fun c24 => x_op c24 ?_)
        · refine x_pick [1, 3, 0] rfl ?_
          exact hJ6 (v23, σ)
        · refine x_aload_n C 1 dX7_readPlace_57 rfl rfl ?_
          refine x_iconst C (4) dX7_readPlace_58 rfl ?_
          refine x_callV C (ct_X7_fail _ _ 4 σ) mt_X7_fail vr_X7_fail wd803 cls_X7 at_X7 rfl ⟨rfl, rfl, Nat.le_of_ble_eq_true rfl, Nat.le_of_ble_eq_true rfl⟩ rfl (by decide) dX7_readPlace_59 (kV (fun s25 => ?_))
          refine x_pick [1, 3, 0] rfl ?_
          exact hJ6 (v23, s25)
      · refine x_aload_n C 1 dX7_readPlace_31 rfl rfl ?_
        refine x_iconst C (1) dX7_readPlace_32 rfl ?_
        refine x_callV C (ct_X7_fail _ _ 1 σ) mt_X7_fail vr_X7_fail wd803 cls_X7 at_X7 rfl ⟨rfl, rfl, Nat.le_of_ble_eq_true rfl, Nat.le_of_ble_eq_true rfl⟩ rfl (by decide) dX7_readPlace_33 (kV (fun s26 => ?_))
        refine x_goto C 62 dX7_readPlace_36 rfl ?_
        refine x_pick [1, 3, 0] rfl ?_
        exact hJ6 (v1, s26)
    · refine x_bipush C (7) dX7_readPlace_15 rfl ?_
      refine x_istore_n (L' := [(3, _), (0, _), (1, _), (2, _)]) C dX7_readPlace_17 rfl (by decide) rfl ?_
      refine x_goto C 62 dX7_readPlace_18 rfl ?_
      refine x_pick [1, 3, 0] rfl ?_
      exact hJ6 (7, σ)
theorem ct_X7_readPlace (l : Launch) (E : xE) (n : Nat) (k1 : Nat) (p2 : Int) (σ : xS) (hk1 : isBk k1)  : xMet l E yX7_readPlace cX7_readPlace 4 (some .int) { frames := 7, cells := 0, slots := 0, locals := 152 } [.ref (E.2.2 + 2), .ref (E.2.2 + k1), iV p2] WW WW σ (xrS (m_X7_readPlace n k1 p2 σ)) := by
  refine xMet.of0 (by decide) (Nat.le_of_ble_eq_true rfl) rfl rfl (fun X hE C => ?_)
  subst hE
  exact xMap (fun q => (some (iV q.1), q.2)) (wk_X7_readPlace C (fun _ _ => rfl) hk1)
theorem mt_X7_readPlace : xMth yX7_readPlace cX7_readPlace 4 (some .int) 2 := ⟨wd906, wd152, ⟨by decide, by decide, rfl⟩⟩
theorem vr_X7_readPlace : xVir yX7_readPlace := ⟨wd905, wd17⟩
def m_X7_readStreet (n : Nat) (k1 : Nat) (σ : xS) : Option xS :=
  xlet (σ (k1 + 39) 4) fun v1 => (m_X7_beginOneOf n 20 v1 σ).bind fun s2 => xbS (m_X7_readPlace n k1 (-1) s2) fun v4 s3 => xbS (m_X7_readPlace n k1 v4 s3) fun v6 s5 => xbS (m_X7_readNumber n 1 120 s5) fun v8 s7 => xj (fun (q11 : xS) => some q11) fun J9 => if (m_X7_failed s7) = 0 then xck (zI v1) 20 <| xlet (xput s7 ((k1 + 39) + 1) (zI v1).toNat v4) fun s13 => xck (zI v1) 20 <| xlet (xput s13 ((k1 + 39) + 2) (zI v1).toNat v6) fun s14 => xck (zI v1) 20 <| xlet (xput s14 ((k1 + 39) + 3) (zI v1).toNat v8) fun s15 => xck (zI v1) 20 <| xlet (xput s15 ((k1 + 39) + 4) (zI v1).toNat (zz 0)) fun s16 => xlet (xput s16 (k1 + 39) 4 ((s16 (k1 + 39) 4) + 1)) fun s17 => J9 s17 else J9 s7
set_option maxHeartbeats 4000000 in
set_option maxRecDepth 100000 in
theorem wk_X7_readStreet {X : xX} {Qf : xS → State → Prop} {n : Nat} {k1 : Nat} {σ : xS} (C : xCx X cX7_readStreet "BakeryNight$Parser" none { frames := 8, cells := 0, slots := 0, locals := 175 } 7) (hQ : ∀ τ, Qf τ = xQf X WW (none, τ)) (hk1 : isBk k1) : WO X Qf WW σ 0 [(0, .ref ((xXE X).2.2 + 2)), (1, .ref ((xXE X).2.2 + k1))] [] (m_X7_readStreet n k1 σ) := by
  unfold m_X7_readStreet
  refine x_aload_n C 1 dX7_readStreet_0 rfl rfl ?_
  refine x_get (v := .ref ((xXE X).2.2 + (k1 + 39))) C 9 cls_X1 (at_X1 hk1) (by decide) wd474 rfl (xV_r (rt_X1_roads hk1 _) rfl) dX7_readStreet_1 ?_
  refine x_astore_n (L' := [(2, _), (0, _), (1, _)]) C dX7_readStreet_4 rfl (by decide) rfl ?_
  refine x_aload_n C 0 dX7_readStreet_5 rfl rfl ?_
  refine x_get (v := iV (σ (k1 + 39) 4)) C 4 cls_X9 (at_X9 (rd_bk hk1)) (by decide) wd391 rfl rfl dX7_readStreet_6 ?_
  refine x_letI (fun v1 => ?_)
  refine x_istore_n (L' := [(3, _), (2, _), (0, _), (1, _)]) C dX7_readStreet_9 rfl (by decide) rfl ?_
  refine x_aload_n C 2 dX7_readStreet_10 rfl rfl ?_
  refine x_bipush C (20) dX7_readStreet_11 rfl ?_
  refine x_iload_n C 0 dX7_readStreet_13 rfl rfl ?_
  refine x_callV C (ct_X7_beginOneOf _ _ n 20 v1 σ) mt_X7_beginOneOf vr_X7_beginOneOf wd840 cls_X7 at_X7 rfl ⟨rfl, rfl, Nat.le_of_ble_eq_true rfl, Nat.le_of_ble_eq_true rfl⟩ rfl (by decide) dX7_readStreet_14 (kV (fun s2 => ?_))
  refine x_aload_n C 2 dX7_readStreet_17 rfl rfl ?_
  refine x_aload_n C 3 dX7_readStreet_18 rfl rfl ?_
  refine x_iconst C (-1) dX7_readStreet_19 rfl ?_
  refine x_callV C (ct_X7_readPlace _ _ n k1 (-1) s2 hk1) mt_X7_readPlace vr_X7_readPlace wd903 cls_X7 at_X7 rfl ⟨rfl, rfl, Nat.le_of_ble_eq_true rfl, Nat.le_of_ble_eq_true rfl⟩ rfl (by decide) dX7_readStreet_20 (kS (fun v4 s3 => ?_))
  refine x_istore (L' := [(4, _), (3, _), (2, _), (0, _), (1, _)]) C dX7_readStreet_23 (by decide) rfl ?_
  refine x_aload_n C 3 dX7_readStreet_25 rfl rfl ?_
  refine x_aload_n C 4 dX7_readStreet_26 rfl rfl ?_
  refine x_iload C 0 dX7_readStreet_27 rfl ?_
  refine x_callV C (ct_X7_readPlace _ _ n k1 v4 s3 hk1) mt_X7_readPlace vr_X7_readPlace wd903 cls_X7 at_X7 rfl ⟨rfl, rfl, Nat.le_of_ble_eq_true rfl, Nat.le_of_ble_eq_true rfl⟩ rfl (by decide) dX7_readStreet_29 (kS (fun v6 s5 => ?_))
  refine x_istore (L' := [(5, _), (4, _), (3, _), (2, _), (0, _), (1, _)]) C dX7_readStreet_32 (by decide) rfl ?_
  refine x_aload_n C 4 dX7_readStreet_34 rfl rfl ?_
  refine x_iconst C (1) dX7_readStreet_35 rfl ?_
  refine x_bipush C (120) dX7_readStreet_36 rfl ?_
  refine x_callV C (ct_X7_readNumber _ _ n 1 120 s5) mt_X7_readNumber vr_X7_readNumber wd820 cls_X7 at_X7 rfl ⟨rfl, rfl, Nat.le_of_ble_eq_true rfl, Nat.le_of_ble_eq_true rfl⟩ rfl (by decide) dX7_readStreet_38 (kS (fun v8 s7 => ?_))
  refine x_istore (L' := [(6, _), (5, _), (4, _), (3, _), (2, _), (0, _), (1, _)]) C dX7_readStreet_41 (by decide) rfl ?_
  refine x_aload_n C 5 dX7_readStreet_43 rfl rfl ?_
  refine x_callV C (ct_X7_failed _ _ s7) mt_X7_failed vr_X7_failed wd832 cls_X7 at_X7 rfl ⟨rfl, rfl, Nat.le_of_ble_eq_true rfl, Nat.le_of_ble_eq_true rfl⟩ rfl (by decide) dX7_readStreet_44 (kP ?_)
  refine x_join (fun J => ∀ q11 : xS, WO X Qf WW q11 91 [] [] (J q11)) ?_ ?_
  · intro q11
    exact x_vretQ C (hQ _) rfl dX7_readStreet_91
  · intro J9 hJ10
    refine x_if_ne C 91 (zI_bo (bo_X7_failed _)) dX7_readStreet_47 rfl (fun c12 => x_on c12 ?_) (fun c12 => x_op c12 ?_)
    · refine x_pick [] rfl ?_
      exact hJ10 s7
    · refine x_aload_n C 4 dX7_readStreet_50 rfl rfl ?_
      refine x_get (v := .ref ((xXE X).2.2 + ((k1 + 39) + 1))) C 0 cls_X9 (at_X9 (rd_bk hk1)) (by decide) wd380 rfl (xV_r (rt_X9_from (rd_bk hk1) _) rfl) dX7_readStreet_51 ?_
      refine x_iload_n C 3 dX7_readStreet_54 rfl rfl ?_
      refine x_iload C 2 dX7_readStreet_55 rfl ?_
      refine x_iast C (at_X9_from (rd_bk hk1)) rfl dX7_readStreet_57 (fun _ => ?_)
      refine x_letS (fun s13 => ?_)
      refine x_aload_n C 4 dX7_readStreet_58 rfl rfl ?_
      refine x_get (v := .ref ((xXE X).2.2 + ((k1 + 39) + 2))) C 1 cls_X9 (at_X9 (rd_bk hk1)) (by decide) wd382 rfl (xV_r (rt_X9_to (rd_bk hk1) _) rfl) dX7_readStreet_59 ?_
      refine x_iload_n C 3 dX7_readStreet_62 rfl rfl ?_
      refine x_iload C 1 dX7_readStreet_63 rfl ?_
      refine x_iast C (at_X9_to (rd_bk hk1)) rfl dX7_readStreet_65 (fun _ => ?_)
      refine x_letS (fun s14 => ?_)
      refine x_aload_n C 4 dX7_readStreet_66 rfl rfl ?_
      refine x_get (v := .ref ((xXE X).2.2 + ((k1 + 39) + 3))) C 2 cls_X9 (at_X9 (rd_bk hk1)) (by decide) wd384 rfl (xV_r (rt_X9_minutes (rd_bk hk1) _) rfl) dX7_readStreet_67 ?_
      refine x_iload_n C 3 dX7_readStreet_70 rfl rfl ?_
      refine x_iload C 0 dX7_readStreet_71 rfl ?_
      refine x_iast C (at_X9_minutes (rd_bk hk1)) rfl dX7_readStreet_73 (fun _ => ?_)
      refine x_letS (fun s15 => ?_)
      refine x_aload_n C 4 dX7_readStreet_74 rfl rfl ?_
      refine x_get (v := .ref ((xXE X).2.2 + ((k1 + 39) + 4))) C 3 cls_X9 (at_X9 (rd_bk hk1)) (by decide) wd386 rfl (xV_r (rt_X9_closed (rd_bk hk1) _) rfl) dX7_readStreet_75 ?_
      refine x_iload_n C 3 dX7_readStreet_78 rfl rfl ?_
      refine x_iconst C (0) dX7_readStreet_79 rfl ?_
      refine x_zast C (at_X9_closed (rd_bk hk1)) rfl dX7_readStreet_80 (fun _ => ?_)
      refine x_letS (fun s16 => ?_)
      refine x_aload_n C 4 dX7_readStreet_81 rfl rfl ?_
      refine x_dup C dX7_readStreet_82 rfl ?_
      refine x_get (v := iV (s16 (k1 + 39) 4)) C 4 cls_X9 (at_X9 (rd_bk hk1)) (by decide) wd391 rfl rfl dX7_readStreet_83 ?_
      refine x_iconst C (1) dX7_readStreet_86 rfl ?_
      refine x_iadd C dX7_readStreet_87 ?_
      refine x_put C 4 ((s16 (k1 + 39) 4) + 1) cls_X9 (at_X9 (rd_bk hk1)) (by decide) wd391 rfl rfl rfl rfl (xV_pI rfl) dX7_readStreet_88 ?_
      refine x_letS (fun s17 => ?_)
      refine x_pick [] rfl ?_
      exact hJ10 s17
theorem ct_X7_readStreet (l : Launch) (E : xE) (n : Nat) (k1 : Nat) (σ : xS) (hk1 : isBk k1)  : xMet l E yX7_readStreet cX7_readStreet 7 none { frames := 8, cells := 0, slots := 0, locals := 175 } [.ref (E.2.2 + 2), .ref (E.2.2 + k1)] WW WW σ (xrV (m_X7_readStreet n k1 σ)) := by
  refine xMet.of0 (by decide) (Nat.le_of_ble_eq_true rfl) rfl rfl (fun X hE C => ?_)
  subst hE
  exact xMap (fun q => (none, q)) (wk_X7_readStreet C (fun _ => rfl) hk1)
theorem mt_X7_readStreet : xMth yX7_readStreet cX7_readStreet 7 none 1 := ⟨wd902, wd152, ⟨by decide, by decide, rfl⟩⟩
theorem vr_X7_readStreet : xVir yX7_readStreet := ⟨wd901, wd16⟩
def m_X7_readKnownName (n : Nat) (k1 z1 : Nat) (p2 : Int) (σ : xS) : Option (Int × xS) :=
  xlet (-1) fun v1 => (m_X10_isName n σ).bind fun v2 => xj (fun (q6 : Int × xS) => xj (fun (q10 : xS) => some (q6.1, q10)) fun J8 => if (m_X7_failed q6.2) = 0 then (m_X10_next n q6.2).bind fun s12 => J8 s12 else J8 q6.2) fun J4 => if (zI v2) = 0 then (m_X7_fail 1 σ).bind fun s17 => J4 (v1, s17) else (m_X7_indexOfName n k1 z1 p2 σ).bind fun v14 => if (zI v14) = (-1) then (m_X7_fail 4 σ).bind fun s16 => J4 (v14, s16) else J4 (v14, σ)
set_option maxHeartbeats 4000000 in
set_option maxRecDepth 100000 in
theorem wk_X7_readKnownName {X : xX} {Qf : (Int × xS) → State → Prop} {n : Nat} {k1 z1 : Nat} {p2 : Int} {σ : xS} (C : xCx X cX7_readKnownName "BakeryNight$Parser" (some .int) { frames := 7, cells := 0, slots := 0, locals := 152 } 4) (hQ : ∀ v τ, Qf (v, τ) = xQf X WW (some (iV v), τ)) (hk1 : xAt WW k1 1 z1) : WO X Qf WW σ 0 [(0, .ref ((xXE X).2.2 + 2)), (1, .ref ((xXE X).2.2 + k1)), (2, iV p2)] [] (m_X7_readKnownName n k1 z1 p2 σ) := by
  unfold m_X7_readKnownName
  refine x_iconst C (-1) dX7_readKnownName_0 rfl ?_
  refine x_letI (fun v1 => ?_)
  refine x_istore_n (L' := [(3, _), (0, _), (1, _), (2, _)]) C dX7_readKnownName_1 rfl (by decide) rfl ?_
  refine x_aload_n C 1 dX7_readKnownName_2 rfl rfl ?_
  refine x_get (v := .ref ((xXE X).2.2 + 3)) C 0 cls_X7 at_X7 (by decide) wd218 rfl (xV_r (rt_X7_scanner  _) rfl) dX7_readKnownName_3 ?_
  refine x_callV C (ct_X10_isName _ _ n σ) mt_X10_isName vr_X10_isName wd848 cls_X10 at_X10 rfl ⟨rfl, rfl, Nat.le_of_ble_eq_true rfl, Nat.le_of_ble_eq_true rfl⟩ rfl (by decide) dX7_readKnownName_6 (kI (fun v2 => ?_))
  refine x_join (fun J => ∀ q6 : Int × xS, WO X Qf WW q6.2 37 [(0, .ref ((xXE X).2.2 + 2)), (3, iV q6.1)] [] (J q6)) ?_ ?_
  · intro q6
    refine x_aload_n C 0 dX7_readKnownName_37 rfl rfl ?_
    refine x_callV C (ct_X7_failed _ _ q6.2) mt_X7_failed vr_X7_failed wd832 cls_X7 at_X7 rfl ⟨rfl, rfl, Nat.le_of_ble_eq_true rfl, Nat.le_of_ble_eq_true rfl⟩ rfl (by decide) dX7_readKnownName_38 (kP ?_)
    refine x_join (fun J => ∀ q10 : xS, WO X Qf WW q10 51 [(3, iV q6.1)] [] (J q10)) ?_ ?_
    · intro q10
      refine x_iload_n C 0 dX7_readKnownName_51 rfl rfl ?_
      exact x_iretQ C (hQ _ _) rfl dX7_readKnownName_52
    · intro J8 hJ9
      refine x_if_ne C 51 (zI_bo (bo_X7_failed _)) dX7_readKnownName_41 rfl (fun c11 => x_on c11 ?_) (fun c11 => x_op c11 ?_)
      · refine x_pick [1] rfl ?_
        exact hJ9 q6.2
      · refine x_aload_n C 0 dX7_readKnownName_44 rfl rfl ?_
        refine x_get (v := .ref ((xXE X).2.2 + 3)) C 0 cls_X7 at_X7 (by decide) wd218 rfl (xV_r (rt_X7_scanner  _) rfl) dX7_readKnownName_45 ?_
        refine x_callV C (ct_X10_next _ _ n q6.2) mt_X10_next vr_X10_next wd819 cls_X10 at_X10 rfl ⟨rfl, rfl, Nat.le_of_ble_eq_true rfl, Nat.le_of_ble_eq_true rfl⟩ rfl (by decide) dX7_readKnownName_48 (kV (fun s12 => ?_))
        refine x_pick [1] rfl ?_
        exact hJ9 s12
  · intro J4 hJ5
    refine x_if_ne C 20 rfl dX7_readKnownName_9 rfl (fun c13 => x_on c13 ?_) (fun c13 => x_op c13 ?_)
    · refine x_aload_n C 1 dX7_readKnownName_20 rfl rfl ?_
      refine x_aload_n C 2 dX7_readKnownName_21 rfl rfl ?_
      refine x_iload_n C 3 dX7_readKnownName_22 rfl rfl ?_
      refine x_callV C (ct_X7_indexOfName _ _ n k1 z1 p2 σ hk1) mt_X7_indexOfName vr_X7_indexOfName wd853 cls_X7 at_X7 rfl ⟨rfl, rfl, Nat.le_of_ble_eq_true rfl, Nat.le_of_ble_eq_true rfl⟩ rfl (by decide) dX7_readKnownName_23 (kI (fun v14 => ?_))
      refine x_istore_n (L' := [(3, _), (0, _), (1, _), (2, _)]) C dX7_readKnownName_26 rfl (by decide) rfl ?_
      refine x_iload_n C 0 dX7_readKnownName_27 rfl rfl ?_
      refine x_iconst C (-1) dX7_readKnownName_28 rfl ?_
      refine x_icmp_ne C 37 rfl (zIl _ rfl) dX7_readKnownName_29 rfl (fun c15 => x_on c15 ?_) (fun c15 => x_op c15 ?_)
      · refine x_pick [1, 0] rfl ?_
        exact hJ5 (v14, σ)
      · refine x_aload_n C 1 dX7_readKnownName_32 rfl rfl ?_
        refine x_iconst C (4) dX7_readKnownName_33 rfl ?_
        refine x_callV C (ct_X7_fail _ _ 4 σ) mt_X7_fail vr_X7_fail wd803 cls_X7 at_X7 rfl ⟨rfl, rfl, Nat.le_of_ble_eq_true rfl, Nat.le_of_ble_eq_true rfl⟩ rfl (by decide) dX7_readKnownName_34 (kV (fun s16 => ?_))
        refine x_pick [1, 0] rfl ?_
        exact hJ5 (v14, s16)
    · refine x_aload_n C 1 dX7_readKnownName_12 rfl rfl ?_
      refine x_iconst C (1) dX7_readKnownName_13 rfl ?_
      refine x_callV C (ct_X7_fail _ _ 1 σ) mt_X7_fail vr_X7_fail wd803 cls_X7 at_X7 rfl ⟨rfl, rfl, Nat.le_of_ble_eq_true rfl, Nat.le_of_ble_eq_true rfl⟩ rfl (by decide) dX7_readKnownName_14 (kV (fun s17 => ?_))
      refine x_goto C 37 dX7_readKnownName_17 rfl ?_
      refine x_pick [1, 0] rfl ?_
      exact hJ5 (v1, s17)
theorem ct_X7_readKnownName (l : Launch) (E : xE) (n : Nat) (k1 z1 : Nat) (p2 : Int) (σ : xS) (hk1 : xAt WW k1 1 z1)  : xMet l E yX7_readKnownName cX7_readKnownName 4 (some .int) { frames := 7, cells := 0, slots := 0, locals := 152 } [.ref (E.2.2 + 2), .ref (E.2.2 + k1), iV p2] WW WW σ (xrS (m_X7_readKnownName n k1 z1 p2 σ)) := by
  refine xMet.of0 (by decide) (Nat.le_of_ble_eq_true rfl) rfl rfl (fun X hE C => ?_)
  subst hE
  exact xMap (fun q => (some (iV q.1), q.2)) (wk_X7_readKnownName C (fun _ _ => rfl) hk1)
theorem mt_X7_readKnownName : xMth yX7_readKnownName cX7_readKnownName 4 (some .int) 2 := ⟨wd920, wd152, ⟨by decide, by decide, rfl⟩⟩
theorem vr_X7_readKnownName : xVir yX7_readKnownName := ⟨wd919, wd20⟩
def m_X7_readOrder (n : Nat) (k1 : Nat) (σ : xS) : Option xS :=
  (m_X7_beginOneOf n 24 (σ k1 13) σ).bind fun s1 => xbS (m_X7_readKnownName n 5 7 (s1 k1 8) s1) fun v3 s2 => xbS (m_X7_readKnownName n 4 6 (s2 k1 5) s2) fun v5 s4 => xbS (m_X7_readNumber n 1 200 s4) fun v7 s6 => xbS (m_X7_readField n 22 0 1439 s6) fun v9 s8 => xj (fun (q13 : xS) => some q13) fun J11 => if (m_X7_failed s8) = 0 then xck (zI (s8 k1 13)) 24 <| (m_X5_set (k1 + 14 + (zI (s8 k1 13)).toNat) v3 v5 v7 v9 s8).bind fun s16 => xlet (xput s16 k1 13 ((s16 k1 13) + 1)) fun s17 => J11 s17 else J11 s8
set_option maxHeartbeats 4000000 in
set_option maxRecDepth 100000 in
theorem wk_X7_readOrder {X : xX} {Qf : xS → State → Prop} {n : Nat} {k1 : Nat} {σ : xS} (C : xCx X cX7_readOrder "BakeryNight$Parser" none { frames := 8, cells := 0, slots := 0, locals := 175 } 6) (hQ : ∀ τ, Qf τ = xQf X WW (none, τ)) (hk1 : isBk k1) : WO X Qf WW σ 0 [(0, .ref ((xXE X).2.2 + 2)), (1, .ref ((xXE X).2.2 + k1))] [] (m_X7_readOrder n k1 σ) := by
  unfold m_X7_readOrder
  refine x_aload_n C 0 dX7_readOrder_0 rfl rfl ?_
  refine x_bipush C (24) dX7_readOrder_1 rfl ?_
  refine x_aload_n C 1 dX7_readOrder_3 rfl rfl ?_
  refine x_get (v := iV (σ k1 13)) C 13 cls_X1 (at_X1 hk1) (by decide) wd493 rfl rfl dX7_readOrder_4 ?_
  refine x_callV C (ct_X7_beginOneOf _ _ n 24 (σ k1 13) σ) mt_X7_beginOneOf vr_X7_beginOneOf wd840 cls_X7 at_X7 rfl ⟨rfl, rfl, Nat.le_of_ble_eq_true rfl, Nat.le_of_ble_eq_true rfl⟩ rfl (by decide) dX7_readOrder_7 (kV (fun s1 => ?_))
  refine x_aload_n C 0 dX7_readOrder_10 rfl rfl ?_
  refine x_aload_n C 0 dX7_readOrder_11 rfl rfl ?_
  refine x_get (v := .ref ((xXE X).2.2 + 5)) C 2 cls_X7 at_X7 (by decide) wd220 rfl (xV_r (rt_X7_shopNames  _) rfl) dX7_readOrder_12 ?_
  refine x_aload_n C 1 dX7_readOrder_15 rfl rfl ?_
  refine x_get (v := iV (s1 k1 8)) C 8 cls_X1 (at_X1 hk1) (by decide) wd471 rfl rfl dX7_readOrder_16 ?_
  refine x_callV C (ct_X7_readKnownName _ _ n 5 7 (s1 k1 8) s1 at_X7_shopNames) mt_X7_readKnownName vr_X7_readKnownName wd917 cls_X7 at_X7 rfl ⟨rfl, rfl, Nat.le_of_ble_eq_true rfl, Nat.le_of_ble_eq_true rfl⟩ rfl (by decide) dX7_readOrder_19 (kS (fun v3 s2 => ?_))
  refine x_istore_n (L' := [(2, _), (0, _), (1, _)]) C dX7_readOrder_22 rfl (by decide) rfl ?_
  refine x_aload_n C 1 dX7_readOrder_23 rfl rfl ?_
  refine x_aload_n C 1 dX7_readOrder_24 rfl rfl ?_
  refine x_get (v := .ref ((xXE X).2.2 + 4)) C 1 cls_X7 at_X7 (by decide) wd219 rfl (xV_r (rt_X7_doughNames  _) rfl) dX7_readOrder_25 ?_
  refine x_aload_n C 2 dX7_readOrder_28 rfl rfl ?_
  refine x_get (v := iV (s2 k1 5)) C 5 cls_X1 (at_X1 hk1) (by decide) wd460 rfl rfl dX7_readOrder_29 ?_
  refine x_callV C (ct_X7_readKnownName _ _ n 4 6 (s2 k1 5) s2 at_X7_doughNames) mt_X7_readKnownName vr_X7_readKnownName wd917 cls_X7 at_X7 rfl ⟨rfl, rfl, Nat.le_of_ble_eq_true rfl, Nat.le_of_ble_eq_true rfl⟩ rfl (by decide) dX7_readOrder_32 (kS (fun v5 s4 => ?_))
  refine x_istore_n (L' := [(3, _), (2, _), (0, _), (1, _)]) C dX7_readOrder_35 rfl (by decide) rfl ?_
  refine x_aload_n C 2 dX7_readOrder_36 rfl rfl ?_
  refine x_iconst C (1) dX7_readOrder_37 rfl ?_
  refine x_sipush C (200) dX7_readOrder_38 rfl ?_
  refine x_callV C (ct_X7_readNumber _ _ n 1 200 s4) mt_X7_readNumber vr_X7_readNumber wd820 cls_X7 at_X7 rfl ⟨rfl, rfl, Nat.le_of_ble_eq_true rfl, Nat.le_of_ble_eq_true rfl⟩ rfl (by decide) dX7_readOrder_41 (kS (fun v7 s6 => ?_))
  refine x_istore (L' := [(4, _), (3, _), (2, _), (0, _), (1, _)]) C dX7_readOrder_44 (by decide) rfl ?_
  refine x_aload_n C 3 dX7_readOrder_46 rfl rfl ?_
  refine x_gsW C 22 (by decide) wd921 dX7_readOrder_47 ?_
  refine x_iconst C (0) dX7_readOrder_50 rfl ?_
  refine x_sipush C (1439) dX7_readOrder_51 rfl ?_
  refine x_callV C (ct_X7_readField _ _ n 22 0 1439 s6 (by decide)) mt_X7_readField vr_X7_readField wd865 cls_X7 at_X7 rfl ⟨rfl, rfl, Nat.le_of_ble_eq_true rfl, Nat.le_of_ble_eq_true rfl⟩ rfl (by decide) dX7_readOrder_54 (kS (fun v9 s8 => ?_))
  refine x_istore (L' := [(5, _), (4, _), (3, _), (2, _), (0, _), (1, _)]) C dX7_readOrder_57 (by decide) rfl ?_
  refine x_aload_n C 4 dX7_readOrder_59 rfl rfl ?_
  refine x_callV C (ct_X7_failed _ _ s8) mt_X7_failed vr_X7_failed wd832 cls_X7 at_X7 rfl ⟨rfl, rfl, Nat.le_of_ble_eq_true rfl, Nat.le_of_ble_eq_true rfl⟩ rfl (by decide) dX7_readOrder_60 (kP ?_)
  refine x_join (fun J => ∀ q13 : xS, WO X Qf WW q13 94 [] [] (J q13)) ?_ ?_
  · intro q13
    exact x_vretQ C (hQ _) rfl dX7_readOrder_94
  · intro J11 hJ12
    refine x_if_ne C 94 (zI_bo (bo_X7_failed _)) dX7_readOrder_63 rfl (fun c14 => x_on c14 ?_) (fun c14 => x_op c14 ?_)
    · refine x_pick [] rfl ?_
      exact hJ12 s8
    · refine x_aload_n C 5 dX7_readOrder_66 rfl rfl ?_
      refine x_get (v := .ref ((xXE X).2.2 + (k1 + 13))) C 12 cls_X1 (at_X1 hk1) (by decide) wd487 rfl (xV_r (rt_X1_orders hk1 _) rfl) dX7_readOrder_67 ?_
      refine x_aload_n C 5 dX7_readOrder_70 rfl rfl ?_
      refine x_get (v := iV (s8 k1 13)) C 13 cls_X1 (at_X1 hk1) (by decide) wd493 rfl rfl dX7_readOrder_71 ?_
      refine x_aald C (at_X1_orders hk1) (by decide) rfl (fun h15 => rl_X1_orders hk1 _ h15) dX7_readOrder_74 (fun h15 => ?_)
      refine x_iload_n C 3 dX7_readOrder_75 rfl rfl ?_
      refine x_iload_n C 2 dX7_readOrder_76 rfl rfl ?_
      refine x_iload C 1 dX7_readOrder_77 rfl ?_
      refine x_iload C 0 dX7_readOrder_79 rfl ?_
      refine x_callV C (ct_X5_set _ _ (k1 + 14 + (zI (s8 k1 13)).toNat) v3 v5 v7 v9 s8 (el_X1_orders hk1 h15)) mt_X5_set vr_X5_set wd923 cls_X5 (el_X1_orders hk1 h15) rfl ⟨rfl, rfl, Nat.le_of_ble_eq_true rfl, Nat.le_of_ble_eq_true rfl⟩ rfl (by decide) dX7_readOrder_81 (kV (fun s16 => ?_))
      refine x_aload_n C 5 dX7_readOrder_84 rfl rfl ?_
      refine x_dup C dX7_readOrder_85 rfl ?_
      refine x_get (v := iV (s16 k1 13)) C 13 cls_X1 (at_X1 hk1) (by decide) wd493 rfl rfl dX7_readOrder_86 ?_
      refine x_iconst C (1) dX7_readOrder_89 rfl ?_
      refine x_iadd C dX7_readOrder_90 ?_
      refine x_put C 13 ((s16 k1 13) + 1) cls_X1 (at_X1 hk1) (by decide) wd493 rfl rfl rfl rfl (xV_pI rfl) dX7_readOrder_91 ?_
      refine x_letS (fun s17 => ?_)
      refine x_pick [] rfl ?_
      exact hJ12 s17
theorem ct_X7_readOrder (l : Launch) (E : xE) (n : Nat) (k1 : Nat) (σ : xS) (hk1 : isBk k1)  : xMet l E yX7_readOrder cX7_readOrder 6 none { frames := 8, cells := 0, slots := 0, locals := 175 } [.ref (E.2.2 + 2), .ref (E.2.2 + k1)] WW WW σ (xrV (m_X7_readOrder n k1 σ)) := by
  refine xMet.of0 (by decide) (Nat.le_of_ble_eq_true rfl) rfl rfl (fun X hE C => ?_)
  subst hE
  exact xMap (fun q => (none, q)) (wk_X7_readOrder C (fun _ => rfl) hk1)
theorem mt_X7_readOrder : xMth yX7_readOrder cX7_readOrder 6 none 1 := ⟨wd916, wd152, ⟨by decide, by decide, rfl⟩⟩
theorem vr_X7_readOrder : xVir yX7_readOrder := ⟨wd915, wd19⟩
def m_X7_readStatement (n : Nat) (k1 : Nat) (σ : xS) : Option xS :=
  (m_X10_keyword n σ).bind fun v1 => xwd v1 <| if v1 = -1 then (m_X7_fail 1 σ).bind fun s41 => some s41 else xck (zI v1) 24 <| xj (fun (q6 : xS) => (m_X7_readSemicolon n q6).bind fun s7 => some s7) fun J4 => if (zI (SWT.getD (zI v1).toNat 0)) = 1 then xbS (m_X7_readSetting n (σ 2 3) 10 40 σ) fun v10 s9 => xlet (xput s9 k1 0 v10) fun s11 => xlet (xput s11 2 3 1) fun s12 => J4 s12 else if (zI (SWT.getD (zI v1).toNat 0)) = 2 then xbS (m_X7_readSetting n (σ 2 4) 0 120 σ) fun v15 s14 => xlet (xput s14 k1 1 v15) fun s16 => xlet (xput s16 2 4 1) fun s17 => J4 s17 else if (zI (SWT.getD (zI v1).toNat 0)) = 3 then xbS (m_X7_readSetting n (σ 2 5) 1 4 σ) fun v20 s19 => xlet (xput s19 k1 2 v20) fun s21 => xlet (xput s21 2 5 1) fun s22 => J4 s22 else if (zI (SWT.getD (zI v1).toNat 0)) = 4 then xbS (m_X7_readSetting n (σ 2 6) 1 4 σ) fun v25 s24 => xlet (xput s24 k1 3 v25) fun s26 => xlet (xput s26 2 6 1) fun s27 => J4 s27 else if (zI (SWT.getD (zI v1).toNat 0)) = 5 then (m_X7_readDough n k1 σ).bind fun s29 => J4 s29 else if (zI (SWT.getD (zI v1).toNat 0)) = 6 then (m_X7_readOven n k1 σ).bind fun s31 => J4 s31 else if (zI (SWT.getD (zI v1).toNat 0)) = 7 then (m_X7_readShop n k1 σ).bind fun s33 => J4 s33 else if (zI (SWT.getD (zI v1).toNat 0)) = 8 then (m_X7_readStreet n k1 σ).bind fun s35 => J4 s35 else if (zI (SWT.getD (zI v1).toNat 0)) = 9 then (m_X7_readVan n k1 σ).bind fun s37 => J4 s37 else if (zI (SWT.getD (zI v1).toNat 0)) = 10 then (m_X7_readOrder n k1 σ).bind fun s39 => J4 s39 else (m_X7_fail 1 σ).bind fun s40 => J4 s40
set_option maxHeartbeats 4000000 in
set_option maxRecDepth 100000 in
theorem wk_X7_readStatement {X : xX} {Qf : xS → State → Prop} {n : Nat} {k1 : Nat} {σ : xS} (C : xCx X cX7_readStatement "BakeryNight$Parser" none { frames := 9, cells := 0, slots := 0, locals := 201 } 3) (hQ : ∀ τ, Qf τ = xQf X WW (none, τ)) (hk1 : isBk k1) : WO X Qf WW σ 0 [(0, .ref ((xXE X).2.2 + 2)), (1, .ref ((xXE X).2.2 + k1))] [] (m_X7_readStatement n k1 σ) := by
  unfold m_X7_readStatement
  refine x_aload_n C 0 dX7_readStatement_0 rfl rfl ?_
  refine x_get (v := .ref ((xXE X).2.2 + 3)) C 0 cls_X7 at_X7 (by decide) wd218 rfl (xV_r (rt_X7_scanner  _) rfl) dX7_readStatement_1 ?_
  refine x_callV C (ct_X10_keyword _ _ n σ) mt_X10_keyword vr_X10_keyword wd749 cls_X10 at_X10 rfl ⟨rfl, rfl, Nat.le_of_ble_eq_true rfl, Nat.le_of_ble_eq_true rfl⟩ rfl (by decide) dX7_readStatement_4 (kW (fun v1 => ?_))
  refine x_wd (fun hw2 => ?_)
  refine x_astore_n (L' := [(2, _), (0, _), (1, _)]) C dX7_readStatement_7 rfl (by decide) rfl ?_
  refine x_aload_n C 0 dX7_readStatement_8 rfl rfl ?_
  refine x_ifnonnullW C hw2 18 dX7_readStatement_9 rfl (fun c3 => x_on c3 ?_) (fun c3 => x_op c3 ?_)
  · refine x_gsSM C wd807 dX7_readStatement_18 ?_
    refine x_aload_n C 0 dX7_readStatement_21 rfl rfl ?_
    refine x_ordinal C (w_ne hw2 c3) wd809 (Nat.le_of_ble_eq_true rfl) (Nat.le_of_ble_eq_true rfl) (Nat.le_of_ble_eq_true rfl) dX7_readStatement_22 ?_
    refine x_aldSM C rfl dX7_readStatement_25 (fun _ => ?_)
    refine x_join (fun J => ∀ q6 : xS, WO X Qf WW q6 224 [(0, .ref ((xXE X).2.2 + 2))] [] (J q6)) ?_ ?_
    · intro q6
      refine x_aload_n C 0 dX7_readStatement_224 rfl rfl ?_
      refine x_callV C (ct_X7_readSemicolon _ _ n q6) mt_X7_readSemicolon vr_X7_readSemicolon wd927 cls_X7 at_X7 rfl ⟨rfl, rfl, Nat.le_of_ble_eq_true rfl, Nat.le_of_ble_eq_true rfl⟩ rfl (by decide) dX7_readStatement_225 (kV (fun s7 => ?_))
      exact x_vretQ C (hQ _) rfl dX7_readStatement_228
    · intro J4 hJ5
      by_cases c8 : (zI (SWT.getD (zI v1).toNat 0)) = 1
      · refine x_op c8 ?_
        refine x_tabIn C rfl 80 dX7_readStatement_26 (c := 1) c8 (by decide) (by decide) rfl rfl ?_
        refine x_aload_n C 2 dX7_readStatement_80 rfl rfl ?_
        refine x_aload_n C 1 dX7_readStatement_81 rfl rfl ?_
        refine x_aload_n C 1 dX7_readStatement_82 rfl rfl ?_
        refine x_get (v := iV (σ 2 3)) C 3 cls_X7 at_X7 (by decide) wd221 rfl rfl dX7_readStatement_83 ?_
        refine x_bipush C (10) dX7_readStatement_86 rfl ?_
        refine x_bipush C (40) dX7_readStatement_88 rfl ?_
        refine x_callV C (ct_X7_readSetting _ _ n (σ 2 3) 10 40 σ) mt_X7_readSetting vr_X7_readSetting wd815 cls_X7 at_X7 rfl ⟨rfl, rfl, Nat.le_of_ble_eq_true rfl, Nat.le_of_ble_eq_true rfl⟩ rfl (Nat.le_of_ble_eq_true rfl) dX7_readStatement_90 (kS (fun v10 s9 => ?_))
        refine x_put C 0 v10 cls_X1 (at_X1 hk1) (by decide) wd442 rfl rfl rfl rfl (xV_pI rfl) dX7_readStatement_93 ?_
        refine x_letS (fun s11 => ?_)
        refine x_aload_n C 1 dX7_readStatement_96 rfl rfl ?_
        refine x_iconst C (1) dX7_readStatement_97 rfl ?_
        refine x_put C 3 1 cls_X7 at_X7 (by decide) wd221 rfl rfl (xnb (Or.inr rfl)) (xfb (Or.inr rfl)) (xV_pI rfl) dX7_readStatement_98 ?_
        refine x_letS (fun s12 => ?_)
        refine x_goto C 224 dX7_readStatement_101 rfl ?_
        refine x_pick [1] rfl ?_
        exact hJ5 s12
      · refine x_on c8 ?_
        by_cases c13 : (zI (SWT.getD (zI v1).toNat 0)) = 2
        · refine x_op c13 ?_
          refine x_tabIn C rfl 104 dX7_readStatement_26 (c := 2) c13 (by decide) (by decide) rfl rfl ?_
          refine x_aload_n C 2 dX7_readStatement_104 rfl rfl ?_
          refine x_aload_n C 1 dX7_readStatement_105 rfl rfl ?_
          refine x_aload_n C 1 dX7_readStatement_106 rfl rfl ?_
          refine x_get (v := iV (σ 2 4)) C 4 cls_X7 at_X7 (by decide) wd222 rfl rfl dX7_readStatement_107 ?_
          refine x_iconst C (0) dX7_readStatement_110 rfl ?_
          refine x_bipush C (120) dX7_readStatement_111 rfl ?_
          refine x_callV C (ct_X7_readSetting _ _ n (σ 2 4) 0 120 σ) mt_X7_readSetting vr_X7_readSetting wd815 cls_X7 at_X7 rfl ⟨rfl, rfl, Nat.le_of_ble_eq_true rfl, Nat.le_of_ble_eq_true rfl⟩ rfl (Nat.le_of_ble_eq_true rfl) dX7_readStatement_113 (kS (fun v15 s14 => ?_))
          refine x_put C 1 v15 cls_X1 (at_X1 hk1) (by decide) wd445 rfl rfl rfl rfl (xV_pI rfl) dX7_readStatement_116 ?_
          refine x_letS (fun s16 => ?_)
          refine x_aload_n C 1 dX7_readStatement_119 rfl rfl ?_
          refine x_iconst C (1) dX7_readStatement_120 rfl ?_
          refine x_put C 4 1 cls_X7 at_X7 (by decide) wd222 rfl rfl (xnb (Or.inr rfl)) (xfb (Or.inr rfl)) (xV_pI rfl) dX7_readStatement_121 ?_
          refine x_letS (fun s17 => ?_)
          refine x_goto C 224 dX7_readStatement_124 rfl ?_
          refine x_pick [1] rfl ?_
          exact hJ5 s17
        · refine x_on c13 ?_
          by_cases c18 : (zI (SWT.getD (zI v1).toNat 0)) = 3
          · refine x_op c18 ?_
            refine x_tabIn C rfl 127 dX7_readStatement_26 (c := 3) c18 (by decide) (by decide) rfl rfl ?_
            refine x_aload_n C 2 dX7_readStatement_127 rfl rfl ?_
            refine x_aload_n C 1 dX7_readStatement_128 rfl rfl ?_
            refine x_aload_n C 1 dX7_readStatement_129 rfl rfl ?_
            refine x_get (v := iV (σ 2 5)) C 5 cls_X7 at_X7 (by decide) wd223 rfl rfl dX7_readStatement_130 ?_
            refine x_iconst C (1) dX7_readStatement_133 rfl ?_
            refine x_iconst C (4) dX7_readStatement_134 rfl ?_
            refine x_callV C (ct_X7_readSetting _ _ n (σ 2 5) 1 4 σ) mt_X7_readSetting vr_X7_readSetting wd815 cls_X7 at_X7 rfl ⟨rfl, rfl, Nat.le_of_ble_eq_true rfl, Nat.le_of_ble_eq_true rfl⟩ rfl (Nat.le_of_ble_eq_true rfl) dX7_readStatement_135 (kS (fun v20 s19 => ?_))
            refine x_put C 2 v20 cls_X1 (at_X1 hk1) (by decide) wd448 rfl rfl rfl rfl (xV_pI rfl) dX7_readStatement_138 ?_
            refine x_letS (fun s21 => ?_)
            refine x_aload_n C 1 dX7_readStatement_141 rfl rfl ?_
            refine x_iconst C (1) dX7_readStatement_142 rfl ?_
            refine x_put C 5 1 cls_X7 at_X7 (by decide) wd223 rfl rfl (xnb (Or.inr rfl)) (xfb (Or.inr rfl)) (xV_pI rfl) dX7_readStatement_143 ?_
            refine x_letS (fun s22 => ?_)
            refine x_goto C 224 dX7_readStatement_146 rfl ?_
            refine x_pick [1] rfl ?_
            exact hJ5 s22
          · refine x_on c18 ?_
            by_cases c23 : (zI (SWT.getD (zI v1).toNat 0)) = 4
            · refine x_op c23 ?_
              refine x_tabIn C rfl 149 dX7_readStatement_26 (c := 4) c23 (by decide) (by decide) rfl rfl ?_
              refine x_aload_n C 2 dX7_readStatement_149 rfl rfl ?_
              refine x_aload_n C 1 dX7_readStatement_150 rfl rfl ?_
              refine x_aload_n C 1 dX7_readStatement_151 rfl rfl ?_
              refine x_get (v := iV (σ 2 6)) C 6 cls_X7 at_X7 (by decide) wd224 rfl rfl dX7_readStatement_152 ?_
              refine x_iconst C (1) dX7_readStatement_155 rfl ?_
              refine x_iconst C (4) dX7_readStatement_156 rfl ?_
              refine x_callV C (ct_X7_readSetting _ _ n (σ 2 6) 1 4 σ) mt_X7_readSetting vr_X7_readSetting wd815 cls_X7 at_X7 rfl ⟨rfl, rfl, Nat.le_of_ble_eq_true rfl, Nat.le_of_ble_eq_true rfl⟩ rfl (Nat.le_of_ble_eq_true rfl) dX7_readStatement_157 (kS (fun v25 s24 => ?_))
              refine x_put C 3 v25 cls_X1 (at_X1 hk1) (by decide) wd451 rfl rfl rfl rfl (xV_pI rfl) dX7_readStatement_160 ?_
              refine x_letS (fun s26 => ?_)
              refine x_aload_n C 1 dX7_readStatement_163 rfl rfl ?_
              refine x_iconst C (1) dX7_readStatement_164 rfl ?_
              refine x_put C 6 1 cls_X7 at_X7 (by decide) wd224 rfl rfl (xnb (Or.inr rfl)) (xfb (Or.inr rfl)) (xV_pI rfl) dX7_readStatement_165 ?_
              refine x_letS (fun s27 => ?_)
              refine x_goto C 224 dX7_readStatement_168 rfl ?_
              refine x_pick [1] rfl ?_
              exact hJ5 s27
            · refine x_on c23 ?_
              by_cases c28 : (zI (SWT.getD (zI v1).toNat 0)) = 5
              · refine x_op c28 ?_
                refine x_tabIn C rfl 171 dX7_readStatement_26 (c := 5) c28 (by decide) (by decide) rfl rfl ?_
                refine x_aload_n C 1 dX7_readStatement_171 rfl rfl ?_
                refine x_aload_n C 2 dX7_readStatement_172 rfl rfl ?_
                refine x_callV C (ct_X7_readDough _ _ n k1 σ hk1) mt_X7_readDough vr_X7_readDough wd836 cls_X7 at_X7 rfl ⟨rfl, rfl, Nat.le_of_ble_eq_true rfl, Nat.le_of_ble_eq_true rfl⟩ rfl (by decide) dX7_readStatement_173 (kV (fun s29 => ?_))
                refine x_goto C 224 dX7_readStatement_176 rfl ?_
                refine x_pick [1] rfl ?_
                exact hJ5 s29
              · refine x_on c28 ?_
                by_cases c30 : (zI (SWT.getD (zI v1).toNat 0)) = 6
                · refine x_op c30 ?_
                  refine x_tabIn C rfl 179 dX7_readStatement_26 (c := 6) c30 (by decide) (by decide) rfl rfl ?_
                  refine x_aload_n C 1 dX7_readStatement_179 rfl rfl ?_
                  refine x_aload_n C 2 dX7_readStatement_180 rfl rfl ?_
                  refine x_callV C (ct_X7_readOven _ _ n k1 σ hk1) mt_X7_readOven vr_X7_readOven wd887 cls_X7 at_X7 rfl ⟨rfl, rfl, Nat.le_of_ble_eq_true rfl, Nat.le_of_ble_eq_true rfl⟩ rfl (by decide) dX7_readStatement_181 (kV (fun s31 => ?_))
                  refine x_goto C 224 dX7_readStatement_184 rfl ?_
                  refine x_pick [1] rfl ?_
                  exact hJ5 s31
                · refine x_on c30 ?_
                  by_cases c32 : (zI (SWT.getD (zI v1).toNat 0)) = 7
                  · refine x_op c32 ?_
                    refine x_tabIn C rfl 187 dX7_readStatement_26 (c := 7) c32 (by decide) (by decide) rfl rfl ?_
                    refine x_aload_n C 1 dX7_readStatement_187 rfl rfl ?_
                    refine x_aload_n C 2 dX7_readStatement_188 rfl rfl ?_
                    refine x_callV C (ct_X7_readShop _ _ n k1 σ hk1) mt_X7_readShop vr_X7_readShop wd895 cls_X7 at_X7 rfl ⟨rfl, rfl, Nat.le_of_ble_eq_true rfl, Nat.le_of_ble_eq_true rfl⟩ rfl (by decide) dX7_readStatement_189 (kV (fun s33 => ?_))
                    refine x_goto C 224 dX7_readStatement_192 rfl ?_
                    refine x_pick [1] rfl ?_
                    exact hJ5 s33
                  · refine x_on c32 ?_
                    by_cases c34 : (zI (SWT.getD (zI v1).toNat 0)) = 8
                    · refine x_op c34 ?_
                      refine x_tabIn C rfl 195 dX7_readStatement_26 (c := 8) c34 (by decide) (by decide) rfl rfl ?_
                      refine x_aload_n C 1 dX7_readStatement_195 rfl rfl ?_
                      refine x_aload_n C 2 dX7_readStatement_196 rfl rfl ?_
                      refine x_callV C (ct_X7_readStreet _ _ n k1 σ hk1) mt_X7_readStreet vr_X7_readStreet wd899 cls_X7 at_X7 rfl ⟨rfl, rfl, Nat.le_of_ble_eq_true rfl, Nat.le_of_ble_eq_true rfl⟩ rfl (by decide) dX7_readStatement_197 (kV (fun s35 => ?_))
                      refine x_goto C 224 dX7_readStatement_200 rfl ?_
                      refine x_pick [1] rfl ?_
                      exact hJ5 s35
                    · refine x_on c34 ?_
                      by_cases c36 : (zI (SWT.getD (zI v1).toNat 0)) = 9
                      · refine x_op c36 ?_
                        refine x_tabIn C rfl 203 dX7_readStatement_26 (c := 9) c36 (by decide) (by decide) rfl rfl ?_
                        refine x_aload_n C 1 dX7_readStatement_203 rfl rfl ?_
                        refine x_aload_n C 2 dX7_readStatement_204 rfl rfl ?_
                        refine x_callV C (ct_X7_readVan _ _ n k1 σ hk1) mt_X7_readVan vr_X7_readVan wd909 cls_X7 at_X7 rfl ⟨rfl, rfl, Nat.le_of_ble_eq_true rfl, Nat.le_of_ble_eq_true rfl⟩ rfl (by decide) dX7_readStatement_205 (kV (fun s37 => ?_))
                        refine x_goto C 224 dX7_readStatement_208 rfl ?_
                        refine x_pick [1] rfl ?_
                        exact hJ5 s37
                      · refine x_on c36 ?_
                        by_cases c38 : (zI (SWT.getD (zI v1).toNat 0)) = 10
                        · refine x_op c38 ?_
                          refine x_tabIn C rfl 211 dX7_readStatement_26 (c := 10) c38 (by decide) (by decide) rfl rfl ?_
                          refine x_aload_n C 1 dX7_readStatement_211 rfl rfl ?_
                          refine x_aload_n C 2 dX7_readStatement_212 rfl rfl ?_
                          refine x_callV C (ct_X7_readOrder _ _ n k1 σ hk1) mt_X7_readOrder vr_X7_readOrder wd913 cls_X7 at_X7 rfl ⟨rfl, rfl, Nat.le_of_ble_eq_true rfl, Nat.le_of_ble_eq_true rfl⟩ rfl (by decide) dX7_readStatement_213 (kV (fun s39 => ?_))
                          refine x_goto C 224 dX7_readStatement_216 rfl ?_
                          refine x_pick [1] rfl ?_
                          exact hJ5 s39
                        · refine x_on c38 ?_
                          refine x_tabOut C rfl 219 dX7_readStatement_26 (by omega) rfl ?_
                          refine x_aload_n C 1 dX7_readStatement_219 rfl rfl ?_
                          refine x_iconst C (1) dX7_readStatement_220 rfl ?_
                          refine x_callV C (ct_X7_fail _ _ 1 σ) mt_X7_fail vr_X7_fail wd803 cls_X7 at_X7 rfl ⟨rfl, rfl, Nat.le_of_ble_eq_true rfl, Nat.le_of_ble_eq_true rfl⟩ rfl (by decide) dX7_readStatement_221 (kV (fun s40 => ?_))
                          refine x_pick [1] rfl ?_
                          exact hJ5 s40
  · refine x_aload_n C 1 dX7_readStatement_12 rfl rfl ?_
    refine x_iconst C (1) dX7_readStatement_13 rfl ?_
    refine x_callV C (ct_X7_fail _ _ 1 σ) mt_X7_fail vr_X7_fail wd803 cls_X7 at_X7 rfl ⟨rfl, rfl, Nat.le_of_ble_eq_true rfl, Nat.le_of_ble_eq_true rfl⟩ rfl (by decide) dX7_readStatement_14 (kV (fun s41 => ?_))
    exact x_vretQ C (hQ _) rfl dX7_readStatement_17
theorem ct_X7_readStatement (l : Launch) (E : xE) (n : Nat) (k1 : Nat) (σ : xS) (hk1 : isBk k1)  : xMet l E yX7_readStatement cX7_readStatement 3 none { frames := 9, cells := 0, slots := 0, locals := 201 } [.ref (E.2.2 + 2), .ref (E.2.2 + k1)] WW WW σ (xrV (m_X7_readStatement n k1 σ)) := by
  refine xMet.of0 (by decide) (Nat.le_of_ble_eq_true rfl) rfl rfl (fun X hE C => ?_)
  subst hE
  exact xMap (fun q => (none, q)) (wk_X7_readStatement C (fun _ => rfl) hk1)
theorem mt_X7_readStatement : xMth yX7_readStatement cX7_readStatement 3 none 1 := ⟨wd748, wd152, ⟨by decide, by decide, rfl⟩⟩
theorem vr_X7_readStatement : xVir yX7_readStatement := ⟨wd747, wd4⟩
def m_X7_parse (n : Nat) (p1 : Int) (k2 : Nat) (σ : xS) : Option (Int × xS) :=
  xlet (xput σ 2 7 0) fun s1 => xlet (xput s1 2 8 (-1)) fun s2 => xlet (xput s2 2 3 0) fun s3 => xlet (xput s3 2 4 0) fun s4 => xlet (xput s4 2 5 0) fun s5 => xlet (xput s5 2 6 0) fun s6 => (m_X1_clear k2 s6).bind fun s7 => (m_X10_begin n p1 s7).bind fun s8 => loopF (fun rec10 (t9 : Int × xS) => xj (fun (q15 : Unit) => if (zI (t9.2 2 7)) = 0 then (m_X9_explore n (k2 + 39) (t9.2 k2 8) (-1) t9.2).bind fun s17 => some (t9.1, s17) else some ((-1), t9.2)) fun J13 => if (zI (t9.2 3 2)) = 0 then J13 () else if (zI (t9.2 2 7)) = 0 then if 1600 ≤ (zI t9.1) then J13 () else (m_X7_readStatement n k2 t9.2).bind fun s21 => xlet (t9.1 + 1) fun v22 => rec10 (v22, s21) else J13 ()) n (0, s8)
set_option maxHeartbeats 4000000 in
set_option maxRecDepth 100000 in
theorem wk_X7_parse {X : xX} {Qf : (Int × xS) → State → Prop} {n : Nat} {p1 : Int} {k2 : Nat} {σ : xS} (C : xCx X cX7_parse "BakeryNight$Parser" (some .int) { frames := 10, cells := 0, slots := 0, locals := 223 } 4) (hQ : ∀ v τ, Qf (v, τ) = xQf X WW (some (iV v), τ)) (hk2 : isBk k2) : WO X Qf WW σ 0 [(0, .ref ((xXE X).2.2 + 2)), (1, iV p1), (2, .ref ((xXE X).2.2 + k2))] [] (m_X7_parse n p1 k2 σ) := by
  unfold m_X7_parse
  refine x_aload_n C 0 dX7_parse_0 rfl rfl ?_
  refine x_iconst C (0) dX7_parse_1 rfl ?_
  refine x_put C 7 0 cls_X7 at_X7 (by decide) wd225 rfl rfl rfl rfl (xV_pI rfl) dX7_parse_2 ?_
  refine x_letS (fun s1 => ?_)
  refine x_aload_n C 0 dX7_parse_5 rfl rfl ?_
  refine x_iconst C (-1) dX7_parse_6 rfl ?_
  refine x_put C 8 (-1) cls_X7 at_X7 (by decide) wd227 rfl rfl rfl rfl (xV_pI rfl) dX7_parse_7 ?_
  refine x_letS (fun s2 => ?_)
  refine x_aload_n C 0 dX7_parse_10 rfl rfl ?_
  refine x_iconst C (0) dX7_parse_11 rfl ?_
  refine x_put C 3 0 cls_X7 at_X7 (by decide) wd221 rfl rfl (xnb (Or.inl rfl)) (xfb (Or.inl rfl)) (xV_pI rfl) dX7_parse_12 ?_
  refine x_letS (fun s3 => ?_)
  refine x_aload_n C 0 dX7_parse_15 rfl rfl ?_
  refine x_iconst C (0) dX7_parse_16 rfl ?_
  refine x_put C 4 0 cls_X7 at_X7 (by decide) wd222 rfl rfl (xnb (Or.inl rfl)) (xfb (Or.inl rfl)) (xV_pI rfl) dX7_parse_17 ?_
  refine x_letS (fun s4 => ?_)
  refine x_aload_n C 0 dX7_parse_20 rfl rfl ?_
  refine x_iconst C (0) dX7_parse_21 rfl ?_
  refine x_put C 5 0 cls_X7 at_X7 (by decide) wd223 rfl rfl (xnb (Or.inl rfl)) (xfb (Or.inl rfl)) (xV_pI rfl) dX7_parse_22 ?_
  refine x_letS (fun s5 => ?_)
  refine x_aload_n C 0 dX7_parse_25 rfl rfl ?_
  refine x_iconst C (0) dX7_parse_26 rfl ?_
  refine x_put C 6 0 cls_X7 at_X7 (by decide) wd224 rfl rfl (xnb (Or.inl rfl)) (xfb (Or.inl rfl)) (xV_pI rfl) dX7_parse_27 ?_
  refine x_letS (fun s6 => ?_)
  refine x_aload_n C 2 dX7_parse_30 rfl rfl ?_
  refine x_callV C (ct_X1_clear _ _ k2 s6 hk2) mt_X1_clear vr_X1_clear wd732 cls_X1 (at_X1 hk2) rfl ⟨rfl, rfl, Nat.le_of_ble_eq_true rfl, Nat.le_of_ble_eq_true rfl⟩ rfl (by decide) dX7_parse_31 (kV (fun s7 => ?_))
  refine x_aload_n C 0 dX7_parse_34 rfl rfl ?_
  refine x_get (v := .ref ((xXE X).2.2 + 3)) C 0 cls_X7 at_X7 (by decide) wd218 rfl (xV_r (rt_X7_scanner  _) rfl) dX7_parse_35 ?_
  refine x_iload_n C 1 dX7_parse_38 rfl rfl ?_
  refine x_callV C (ct_X10_begin _ _ n p1 s7) mt_X10_begin vr_X10_begin wd733 cls_X10 at_X10 rfl ⟨rfl, rfl, Nat.le_of_ble_eq_true rfl, Nat.le_of_ble_eq_true rfl⟩ rfl (by decide) dX7_parse_39 (kV (fun s8 => ?_))
  refine x_iconst C (0) dX7_parse_42 rfl ?_
  refine x_istore_n (L' := [(3, _), (0, _), (1, _), (2, _)]) C dX7_parse_43 rfl (by decide) rfl ?_
  refine x_pick [1, 3, 0] rfl ?_
  refine x_loop (fun t9 : Int × xS => t9.2) (fun t9 : Int × xS => [(0, .ref ((xXE X).2.2 + 2)), (2, .ref ((xXE X).2.2 + k2)), (3, iV t9.1)]) (fun rec10 hr11 t9 => ?_) n (0, s8)
  refine x_aload_n C 0 dX7_parse_44 rfl rfl ?_
  refine x_get (v := .ref ((xXE X).2.2 + 3)) C 0 cls_X7 at_X7 (by decide) wd218 rfl (xV_r (rt_X7_scanner  _) rfl) dX7_parse_45 ?_
  refine x_get (v := iV (t9.2 3 2)) C 2 cls_X10 at_X10 (by decide) wd201 rfl rfl dX7_parse_48 ?_
  refine x_join (fun J => ∀ q15 : Unit, WO X Qf WW t9.2 79 [(0, .ref ((xXE X).2.2 + 2)), (2, .ref ((xXE X).2.2 + k2)), (3, iV t9.1)] [] (J q15)) ?_ ?_
  · intro q15
    refine x_aload_n C 0 dX7_parse_79 rfl rfl ?_
    refine x_get (v := iV (t9.2 2 7)) C 7 cls_X7 at_X7 (by decide) wd225 rfl rfl dX7_parse_80 ?_
    refine x_if_eq C 88 rfl dX7_parse_83 rfl (fun c16 => x_op c16 ?_) (fun c16 => x_on c16 ?_)
    · refine x_aload_n C 1 dX7_parse_88 rfl rfl ?_
      refine x_get (v := .ref ((xXE X).2.2 + (k2 + 39))) C 9 cls_X1 (at_X1 hk2) (by decide) wd474 rfl (xV_r (rt_X1_roads hk2 _) rfl) dX7_parse_89 ?_
      refine x_aload_n C 1 dX7_parse_92 rfl rfl ?_
      refine x_get (v := iV (t9.2 k2 8)) C 8 cls_X1 (at_X1 hk2) (by decide) wd471 rfl rfl dX7_parse_93 ?_
      refine x_iconst C (-1) dX7_parse_96 rfl ?_
      refine x_callV C (ct_X9_explore _ _ n (k2 + 39) (t9.2 k2 8) (-1) t9.2 (rd_bk hk2)) mt_X9_explore vr_X9_explore wd931 cls_X9 (at_X9 (rd_bk hk2)) rfl ⟨rfl, rfl, Nat.le_of_ble_eq_true rfl, Nat.le_of_ble_eq_true rfl⟩ rfl (by decide) dX7_parse_97 (kV (fun s17 => ?_))
      refine x_iload_n C 2 dX7_parse_100 rfl rfl ?_
      exact x_iretQ C (hQ _ _) rfl dX7_parse_101
    · refine x_iconst C (-1) dX7_parse_86 rfl ?_
      exact x_iretQ C (hQ _ _) rfl dX7_parse_87
  · intro J13 hJ14
    refine x_if_eq C 79 rfl dX7_parse_51 rfl (fun c18 => x_op c18 ?_) (fun c18 => x_on c18 ?_)
    · refine x_pick [0, 1, 2] rfl ?_
      exact hJ14 ()
    · refine x_aload_n C 0 dX7_parse_54 rfl rfl ?_
      refine x_get (v := iV (t9.2 2 7)) C 7 cls_X7 at_X7 (by decide) wd225 rfl rfl dX7_parse_55 ?_
      refine x_if_ne C 79 rfl dX7_parse_58 rfl (fun c19 => x_on c19 ?_) (fun c19 => x_op c19 ?_)
      · refine x_pick [0, 1, 2] rfl ?_
        exact hJ14 ()
      · refine x_iload_n C 2 dX7_parse_61 rfl rfl ?_
        refine x_sipush C (1600) dX7_parse_62 rfl ?_
        refine x_icmp_ge C 79 rfl (zIl _ rfl) dX7_parse_65 rfl (fun c20 => x_op c20 ?_) (fun c20 => x_on c20 ?_)
        · refine x_pick [0, 1, 2] rfl ?_
          exact hJ14 ()
        · refine x_aload_n C 0 dX7_parse_68 rfl rfl ?_
          refine x_aload_n C 1 dX7_parse_69 rfl rfl ?_
          refine x_callV C (ct_X7_readStatement _ _ n k2 t9.2 hk2) mt_X7_readStatement vr_X7_readStatement wd745 cls_X7 at_X7 rfl ⟨rfl, rfl, Nat.le_of_ble_eq_true rfl, Nat.le_of_ble_eq_true rfl⟩ rfl (by decide) dX7_parse_70 (kV (fun s21 => ?_))
          refine x_inc C 2 (f := _) dX7_parse_73 rfl (by decide) (1) rfl (fun v22 => ?_)
          refine x_reL (L' := [(3, _), (0, _), (2, _)]) rfl ?_
          refine x_goto C 44 dX7_parse_76 rfl ?_
          refine x_pick [1, 2, 0] rfl ?_
          exact hr11 (v22, s21)
theorem ct_X7_parse (l : Launch) (E : xE) (n : Nat) (p1 : Int) (k2 : Nat) (σ : xS) (hk2 : isBk k2)  : xMet l E yX7_parse cX7_parse 4 (some .int) { frames := 10, cells := 0, slots := 0, locals := 223 } [.ref (E.2.2 + 2), iV p1, .ref (E.2.2 + k2)] WW WW σ (xrS (m_X7_parse n p1 k2 σ)) := by
  refine xMet.of0 (by decide) (Nat.le_of_ble_eq_true rfl) rfl rfl (fun X hE C => ?_)
  subst hE
  exact xMap (fun q => (some (iV q.1), q.2)) (wk_X7_parse C (fun _ _ => rfl) hk2)
theorem mt_X7_parse : xMth yX7_parse cX7_parse 4 (some .int) 2 := ⟨wd731, wd152, ⟨by decide, by decide, rfl⟩⟩
theorem vr_X7_parse : xVir yX7_parse := ⟨wd729, wd730⟩
def m_X12_parseBakery (n : Nat) (σ : xS) : Option (Int × xS) :=
  xbS (m_X7_parse n (σ 0 1) (bkA (σ 0 4)) σ) fun v2 s1 => xlet (xput s1 0 1 0) fun s3 => if (zI v2) = (-1) then some ((-1), s3) else xlet (xput s3 0 3 (s3 0 4)) fun s5 => xlet (xput s5 0 4 (s3 0 3)) fun s6 => (m_X3_forget s6).bind fun s7 => (m_X12_dropNight s7).bind fun s8 => some (v2, s8)
set_option maxHeartbeats 4000000 in
set_option maxRecDepth 100000 in
theorem wk_X12_parseBakery {X : xX} {Qf : (Int × xS) → State → Prop} {n : Nat} {σ : xS} (C : xCx X cX12_parseBakery "BakeryNight" (some .int) { frames := 11, cells := 0, slots := 0, locals := 246 } 3) (hQ : ∀ v τ, Qf (v, τ) = xQf X WW (some (iV v), τ))  : WO X Qf WW σ 0 [(0, .ref ((xXE X).2.2 + 0))] [] (m_X12_parseBakery n σ) := by
  unfold m_X12_parseBakery
  refine x_aload_n C 0 dX12_parseBakery_0 rfl rfl ?_
  refine x_get (v := .ref ((xXE X).2.2 + 2)) C 2 cls_X12 at_X12 (by decide) wd677 rfl (xV_r (rt_X12_parser  _) rfl) dX12_parseBakery_1 ?_
  refine x_aload_n C 0 dX12_parseBakery_4 rfl rfl ?_
  refine x_get (v := iV (σ 0 1)) C 1 cls_X12 at_X12 (by decide) wd676 rfl rfl dX12_parseBakery_5 ?_
  refine x_aload_n C 0 dX12_parseBakery_8 rfl rfl ?_
  refine x_get (v := .ref ((xXE X).2.2 + (bkA (σ 0 4)))) C 4 cls_X12 at_X12 (by decide) wd679 rfl rfl dX12_parseBakery_9 ?_
  refine x_callV C (ct_X7_parse _ _ n (σ 0 1) (bkA (σ 0 4)) σ (bk_A (σ 0 4))) mt_X7_parse vr_X7_parse wd728 cls_X7 at_X7 rfl ⟨rfl, rfl, Nat.le_of_ble_eq_true rfl, Nat.le_of_ble_eq_true rfl⟩ rfl (by decide) dX12_parseBakery_12 (kS (fun v2 s1 => ?_))
  refine x_istore_n (L' := [(1, _), (0, _)]) C dX12_parseBakery_15 rfl (by decide) rfl ?_
  refine x_aload_n C 1 dX12_parseBakery_16 rfl rfl ?_
  refine x_iconst C (0) dX12_parseBakery_17 rfl ?_
  refine x_put C 1 0 cls_X12 at_X12 (by decide) wd676 rfl rfl rfl rfl (xV_pI rfl) dX12_parseBakery_18 ?_
  refine x_letS (fun s3 => ?_)
  refine x_iload_n C 0 dX12_parseBakery_21 rfl rfl ?_
  refine x_iconst C (-1) dX12_parseBakery_22 rfl ?_
  refine x_icmp_ne C 28 rfl (zIl _ rfl) dX12_parseBakery_23 rfl (fun c4 => x_on c4 ?_) (fun c4 => x_op c4 ?_)
  · refine x_aload_n C 1 dX12_parseBakery_28 rfl rfl ?_
    refine x_get (v := .ref ((xXE X).2.2 + (bkA (s3 0 3)))) C 3 cls_X12 at_X12 (by decide) wd678 rfl rfl dX12_parseBakery_29 ?_
    refine x_astore_n (L' := [(2, _), (1, _), (0, _)]) C dX12_parseBakery_32 rfl (by decide) rfl ?_
    refine x_aload_n C 2 dX12_parseBakery_33 rfl rfl ?_
    refine x_aload_n C 2 dX12_parseBakery_34 rfl rfl ?_
    refine x_get (v := .ref ((xXE X).2.2 + (bkA (s3 0 4)))) C 4 cls_X12 at_X12 (by decide) wd679 rfl rfl dX12_parseBakery_35 ?_
    refine x_put C 3 (s3 0 4) cls_X12 at_X12 (by decide) wd678 rfl rfl rfl rfl rfl dX12_parseBakery_38 ?_
    refine x_letS (fun s5 => ?_)
    refine x_aload_n C 2 dX12_parseBakery_41 rfl rfl ?_
    refine x_aload_n C 0 dX12_parseBakery_42 rfl rfl ?_
    refine x_put C 4 (s3 0 3) cls_X12 at_X12 (by decide) wd679 rfl rfl rfl rfl rfl dX12_parseBakery_43 ?_
    refine x_letS (fun s6 => ?_)
    refine x_aload_n C 2 dX12_parseBakery_46 rfl rfl ?_
    refine x_get (v := .ref ((xXE X).2.2 + 114)) C 5 cls_X12 at_X12 (by decide) wd680 rfl (xV_r (rt_X12_history  _) rfl) dX12_parseBakery_47 ?_
    refine x_callV C (ct_X3_forget _ _ s6) mt_X3_forget vr_X3_forget wd932 cls_X3 at_X3 rfl ⟨rfl, rfl, Nat.le_of_ble_eq_true rfl, Nat.le_of_ble_eq_true rfl⟩ rfl (by decide) dX12_parseBakery_50 (kV (fun s7 => ?_))
    refine x_aload_n C 2 dX12_parseBakery_53 rfl rfl ?_
    refine x_callV C (ct_X12_dropNight _ _ s7) mt_X12_dropNight vr_X12_dropNight wd936 cls_X12 at_X12 rfl ⟨rfl, rfl, Nat.le_of_ble_eq_true rfl, Nat.le_of_ble_eq_true rfl⟩ rfl (by decide) dX12_parseBakery_54 (kV (fun s8 => ?_))
    refine x_iload_n C 1 dX12_parseBakery_57 rfl rfl ?_
    exact x_iretQ C (hQ _ _) rfl dX12_parseBakery_58
  · refine x_iconst C (-1) dX12_parseBakery_26 rfl ?_
    exact x_iretQ C (hQ _ _) rfl dX12_parseBakery_27
theorem ct_X12_parseBakery (l : Launch) (E : xE) (n : Nat) (σ : xS)   : xMet l E yX12_parseBakery cX12_parseBakery 3 (some .int) { frames := 11, cells := 0, slots := 0, locals := 246 } [.ref (E.2.2 + 0)] WW WW σ (xrS (m_X12_parseBakery n σ)) := by
  refine xMet.of0 (by decide) (Nat.le_of_ble_eq_true rfl) rfl rfl (fun X hE C => ?_)
  subst hE
  exact xMap (fun q => (some (iV q.1), q.2)) (wk_X12_parseBakery C (fun _ _ => rfl) )
theorem mt_X12_parseBakery : xMth yX12_parseBakery cX12_parseBakery 3 (some .int) 0 := ⟨wd727, wd151, ⟨by decide, by decide, rfl⟩⟩
theorem vr_X12_parseBakery : xVir yX12_parseBakery := ⟨wd725, wd726⟩
def m_X12_bestPlan (n : Nat) (σ : xS) : Option xS :=
  xj (fun (q4 : xS) => some q4) fun J2 => if (zI (σ 0 9)) = 0 then (m_X8_gather n 139 (bkA (σ 0 3)) 118 σ).bind fun s6 => (m_X8_choose n 139 (bkA (s6 0 3)) s6).bind fun s7 => xlet (xput s7 0 9 1) fun s8 => J2 s8 else J2 σ
set_option maxHeartbeats 4000000 in
set_option maxRecDepth 100000 in
theorem wk_X12_bestPlan {X : xX} {Qf : xS → State → Prop} {n : Nat} {σ : xS} (C : xCx X cX12_bestPlan "BakeryNight" (some (.object "BakeryNight$Plan")) { frames := 5, cells := 0, slots := 0, locals := 123 } 1) (hQ : ∀ τ, Qf τ = xQf X WW (some (.ref ((xXE X).2.2 + 139)), τ))  : WO X Qf WW σ 0 [(0, .ref ((xXE X).2.2 + 0))] [] (m_X12_bestPlan n σ) := by
  unfold m_X12_bestPlan
  refine x_aload_n C 0 dX12_bestPlan_0 rfl rfl ?_
  refine x_get (v := iV (σ 0 9)) C 9 cls_X12 at_X12 (by decide) wd684 rfl rfl dX12_bestPlan_1 ?_
  refine x_join (fun J => ∀ q4 : xS, WO X Qf WW q4 38 [(0, .ref ((xXE X).2.2 + 0))] [] (J q4)) ?_ ?_
  · intro q4
    refine x_aload_n C 0 dX12_bestPlan_38 rfl rfl ?_
    refine x_get (v := .ref ((xXE X).2.2 + 139)) C 7 cls_X12 at_X12 (by decide) wd682 rfl (xV_r (rt_X12_plan  _) rfl) dX12_bestPlan_39 ?_
    exact x_pretQ C (hQ _) rfl dX12_bestPlan_42
  · intro J2 hJ3
    refine x_if_ne C 38 rfl dX12_bestPlan_4 rfl (fun c5 => x_on c5 ?_) (fun c5 => x_op c5 ?_)
    · refine x_pick [0] rfl ?_
      exact hJ3 σ
    · refine x_aload_n C 0 dX12_bestPlan_7 rfl rfl ?_
      refine x_get (v := .ref ((xXE X).2.2 + 139)) C 7 cls_X12 at_X12 (by decide) wd682 rfl (xV_r (rt_X12_plan  _) rfl) dX12_bestPlan_8 ?_
      refine x_aload_n C 0 dX12_bestPlan_11 rfl rfl ?_
      refine x_get (v := .ref ((xXE X).2.2 + (bkA (σ 0 3)))) C 3 cls_X12 at_X12 (by decide) wd678 rfl rfl dX12_bestPlan_12 ?_
      refine x_aload_n C 0 dX12_bestPlan_15 rfl rfl ?_
      refine x_get (v := .ref ((xXE X).2.2 + 118)) C 6 cls_X12 at_X12 (by decide) wd681 rfl (xV_r (rt_X12_night  _) rfl) dX12_bestPlan_16 ?_
      refine x_callV C (ct_X8_gather _ _ n 139 (bkA (σ 0 3)) 118 σ (by first | exact Or.inl rfl | exact Or.inr rfl) (bk_A (σ 0 3)) (by first | exact Or.inl rfl | exact Or.inr rfl)) mt_X8_gather vr_X8_gather wd1226 cls_X8 (at_X8 (by first | exact Or.inl rfl | exact Or.inr rfl)) rfl ⟨rfl, rfl, Nat.le_of_ble_eq_true rfl, Nat.le_of_ble_eq_true rfl⟩ rfl (by decide) dX12_bestPlan_19 (kV (fun s6 => ?_))
      refine x_aload_n C 0 dX12_bestPlan_22 rfl rfl ?_
      refine x_get (v := .ref ((xXE X).2.2 + 139)) C 7 cls_X12 at_X12 (by decide) wd682 rfl (xV_r (rt_X12_plan  _) rfl) dX12_bestPlan_23 ?_
      refine x_aload_n C 0 dX12_bestPlan_26 rfl rfl ?_
      refine x_get (v := .ref ((xXE X).2.2 + (bkA (s6 0 3)))) C 3 cls_X12 at_X12 (by decide) wd678 rfl rfl dX12_bestPlan_27 ?_
      refine x_callV C (ct_X8_choose _ _ n 139 (bkA (s6 0 3)) s6 (by first | exact Or.inl rfl | exact Or.inr rfl) (bk_A (s6 0 3))) mt_X8_choose vr_X8_choose wd1234 cls_X8 (at_X8 (by first | exact Or.inl rfl | exact Or.inr rfl)) rfl ⟨rfl, rfl, Nat.le_of_ble_eq_true rfl, Nat.le_of_ble_eq_true rfl⟩ rfl (by decide) dX12_bestPlan_30 (kV (fun s7 => ?_))
      refine x_aload_n C 0 dX12_bestPlan_33 rfl rfl ?_
      refine x_iconst C (1) dX12_bestPlan_34 rfl ?_
      refine x_put C 9 1 cls_X12 at_X12 (by decide) wd684 rfl rfl (xnb (Or.inr rfl)) (xfb (Or.inr rfl)) (xV_pI rfl) dX12_bestPlan_35 ?_
      refine x_letS (fun s8 => ?_)
      refine x_pick [0] rfl ?_
      exact hJ3 s8
theorem ct_X12_bestPlan (l : Launch) (E : xE) (n : Nat) (σ : xS)   : xMet l E yX12_bestPlan cX12_bestPlan 1 (some (.object "BakeryNight$Plan")) { frames := 5, cells := 0, slots := 0, locals := 123 } [.ref (E.2.2 + 0)] WW WW σ (xrP (E.2.2 + 139) (m_X12_bestPlan n σ)) := by
  refine xMet.of0 (by decide) (Nat.le_of_ble_eq_true rfl) rfl rfl (fun X hE C => ?_)
  subst hE
  exact xMap (fun q => (some (.ref (E.2.2 + 139)), q)) (wk_X12_bestPlan C (fun _ => rfl) )
theorem mt_X12_bestPlan : xMth yX12_bestPlan cX12_bestPlan 1 (some (.object "BakeryNight$Plan")) 0 := ⟨wd1225, wd151, ⟨by decide, by decide, rfl⟩⟩
theorem vr_X12_bestPlan : xVir yX12_bestPlan := ⟨wd1224, wd38⟩
def m_X12_failedShops (n : Nat) (σ : xS) : Option (Int × xS) :=
  if (zI (σ 0 8)) = 0 then some ((-2), σ) else (m_X12_bestPlan n σ).bind fun s2 => xj (fun (q6 : Int) => some (q6, s2)) fun J4 => if (zI (s2 139 11)) = 0 then J4 (-1) else (m_X8_missedTotal 139 s2).bind fun v8 => J4 (v8 + (s2 139 12))
set_option maxHeartbeats 4000000 in
set_option maxRecDepth 100000 in
theorem wk_X12_failedShops {X : xX} {Qf : (Int × xS) → State → Prop} {n : Nat} {σ : xS} (C : xCx X cX12_failedShops "BakeryNight" (some .int) { frames := 6, cells := 0, slots := 0, locals := 143 } 2) (hQ : ∀ v τ, Qf (v, τ) = xQf X WW (some (iV v), τ))  : WO X Qf WW σ 0 [(0, .ref ((xXE X).2.2 + 0))] [] (m_X12_failedShops n σ) := by
  unfold m_X12_failedShops
  refine x_aload_n C 0 dX12_failedShops_0 rfl rfl ?_
  refine x_get (v := iV (σ 0 8)) C 8 cls_X12 at_X12 (by decide) wd683 rfl rfl dX12_failedShops_1 ?_
  refine x_if_ne C 10 rfl dX12_failedShops_4 rfl (fun c1 => x_on c1 ?_) (fun c1 => x_op c1 ?_)
  · refine x_aload_n C 0 dX12_failedShops_10 rfl rfl ?_
    refine x_callV C (ct_X12_bestPlan _ _ n σ) mt_X12_bestPlan vr_X12_bestPlan wd1222 cls_X12 at_X12 rfl ⟨rfl, rfl, Nat.le_of_ble_eq_true rfl, Nat.le_of_ble_eq_true rfl⟩ rfl (by decide) dX12_failedShops_11 (kR (fun s2 => ?_))
    refine x_astore_n (L' := [(1, _), (0, _)]) C dX12_failedShops_14 rfl (by decide) rfl ?_
    refine x_aload_n C 0 dX12_failedShops_15 rfl rfl ?_
    refine x_get (v := iV (s2 139 11)) C 11 cls_X8 (at_X8 (Or.inl rfl)) (by decide) wd638 rfl rfl dX12_failedShops_16 ?_
    refine x_join (fun J => ∀ q6 : Int, WO X Qf WW s2 35 [] [iV q6] (J q6)) ?_ ?_
    · intro q6
      exact x_iretQ C (hQ _ _) rfl dX12_failedShops_35
    · intro J4 hJ5
      refine x_if_eq C 34 rfl dX12_failedShops_19 rfl (fun c7 => x_op c7 ?_) (fun c7 => x_on c7 ?_)
      · refine x_iconst C (-1) dX12_failedShops_34 rfl ?_
        refine x_pick [] rfl ?_
        exact hJ5 (-1)
      · refine x_aload_n C 0 dX12_failedShops_22 rfl rfl ?_
        refine x_callV C (ct_X8_missedTotal _ _ 139 s2 (Or.inl rfl)) mt_X8_missedTotal vr_X8_missedTotal wd1268 cls_X8 (at_X8 (Or.inl rfl)) rfl ⟨rfl, rfl, Nat.le_of_ble_eq_true rfl, Nat.le_of_ble_eq_true rfl⟩ rfl (by decide) dX12_failedShops_23 (kI (fun v8 => ?_))
        refine x_aload_n C 0 dX12_failedShops_26 rfl rfl ?_
        refine x_get (v := iV (s2 139 12)) C 12 cls_X8 (at_X8 (Or.inl rfl)) (by decide) wd640 rfl rfl dX12_failedShops_27 ?_
        refine x_iadd C dX12_failedShops_30 ?_
        refine x_goto C 35 dX12_failedShops_31 rfl ?_
        refine x_pick [] rfl ?_
        exact hJ5 (v8 + (s2 139 12))
  · refine x_bipush C (-2) dX12_failedShops_7 rfl ?_
    exact x_iretQ C (hQ _ _) rfl dX12_failedShops_9
theorem ct_X12_failedShops (l : Launch) (E : xE) (n : Nat) (σ : xS)   : xMet l E yX12_failedShops cX12_failedShops 2 (some .int) { frames := 6, cells := 0, slots := 0, locals := 143 } [.ref (E.2.2 + 0)] WW WW σ (xrS (m_X12_failedShops n σ)) := by
  refine xMet.of0 (by decide) (Nat.le_of_ble_eq_true rfl) rfl rfl (fun X hE C => ?_)
  subst hE
  exact xMap (fun q => (some (iV q.1), q.2)) (wk_X12_failedShops C (fun _ _ => rfl) )
theorem mt_X12_failedShops : xMth yX12_failedShops cX12_failedShops 2 (some .int) 0 := ⟨wd1221, wd151, ⟨by decide, by decide, rfl⟩⟩
theorem vr_X12_failedShops : xVir yX12_failedShops := ⟨wd1219, wd1220⟩
def m_X12_vanOf (n : Nat) (p1 : Int) (σ : xS) : Option (Int × xS) :=
  if (zI (σ 0 8)) = 0 then some ((-2), σ) else xj (fun (q5 : xS × Int) => some (q5.2, q5.1)) fun J3 => if (m_X1_hasShop (bkA (σ 0 3)) p1 σ) = 0 then J3 (σ, (-1)) else (m_X12_bestPlan n σ).bind fun s7 => (m_X8_vanFor n 139 p1 s7).bind fun v8 => J3 (s7, v8)
set_option maxHeartbeats 4000000 in
set_option maxRecDepth 100000 in
theorem wk_X12_vanOf {X : xX} {Qf : (Int × xS) → State → Prop} {n : Nat} {p1 : Int} {σ : xS} (C : xCx X cX12_vanOf "BakeryNight" (some .int) { frames := 6, cells := 0, slots := 0, locals := 143 } 2) (hQ : ∀ v τ, Qf (v, τ) = xQf X WW (some (iV v), τ))  : WO X Qf WW σ 0 [(0, .ref ((xXE X).2.2 + 0)), (1, iV p1)] [] (m_X12_vanOf n p1 σ) := by
  unfold m_X12_vanOf
  refine x_aload_n C 0 dX12_vanOf_0 rfl rfl ?_
  refine x_get (v := iV (σ 0 8)) C 8 cls_X12 at_X12 (by decide) wd683 rfl rfl dX12_vanOf_1 ?_
  refine x_if_ne C 10 rfl dX12_vanOf_4 rfl (fun c1 => x_on c1 ?_) (fun c1 => x_op c1 ?_)
  · refine x_aload_n C 0 dX12_vanOf_10 rfl rfl ?_
    refine x_get (v := .ref ((xXE X).2.2 + (bkA (σ 0 3)))) C 3 cls_X12 at_X12 (by decide) wd678 rfl rfl dX12_vanOf_11 ?_
    refine x_iload_n C 1 dX12_vanOf_14 rfl rfl ?_
    refine x_callV C (ct_X1_hasShop _ _ (bkA (σ 0 3)) p1 σ (bk_A (σ 0 3))) mt_X1_hasShop vr_X1_hasShop wd1000 cls_X1 (at_X1 (bk_A (σ 0 3))) rfl ⟨rfl, rfl, Nat.le_of_ble_eq_true rfl, Nat.le_of_ble_eq_true rfl⟩ rfl (by decide) dX12_vanOf_15 (kP ?_)
    refine x_join (fun J => ∀ q5 : xS × Int, WO X Qf WW q5.1 33 [] [iV q5.2] (J q5)) ?_ ?_
    · intro q5
      exact x_iretQ C (hQ _ _) rfl dX12_vanOf_33
    · intro J3 hJ4
      refine x_if_eq C 32 (zI_bo (bo_X1_hasShop _ _ _)) dX12_vanOf_18 rfl (fun c6 => x_op c6 ?_) (fun c6 => x_on c6 ?_)
      · refine x_iconst C (-1) dX12_vanOf_32 rfl ?_
        refine x_pick [] rfl ?_
        exact hJ4 (σ, (-1))
      · refine x_aload_n C 0 dX12_vanOf_21 rfl rfl ?_
        refine x_callV C (ct_X12_bestPlan _ _ n σ) mt_X12_bestPlan vr_X12_bestPlan wd1222 cls_X12 at_X12 rfl ⟨rfl, rfl, Nat.le_of_ble_eq_true rfl, Nat.le_of_ble_eq_true rfl⟩ rfl (by decide) dX12_vanOf_22 (kR (fun s7 => ?_))
        refine x_iload_n C 1 dX12_vanOf_25 rfl rfl ?_
        refine x_callV C (ct_X8_vanFor _ _ n 139 p1 s7 (Or.inl rfl)) mt_X8_vanFor vr_X8_vanFor wd1276 cls_X8 (at_X8 (Or.inl rfl)) rfl ⟨rfl, rfl, Nat.le_of_ble_eq_true rfl, Nat.le_of_ble_eq_true rfl⟩ rfl (by decide) dX12_vanOf_26 (kI (fun v8 => ?_))
        refine x_goto C 33 dX12_vanOf_29 rfl ?_
        refine x_pick [] rfl ?_
        exact hJ4 (s7, v8)
  · refine x_bipush C (-2) dX12_vanOf_7 rfl ?_
    exact x_iretQ C (hQ _ _) rfl dX12_vanOf_9
theorem ct_X12_vanOf (l : Launch) (E : xE) (n : Nat) (p1 : Int) (σ : xS)   : xMet l E yX12_vanOf cX12_vanOf 2 (some .int) { frames := 6, cells := 0, slots := 0, locals := 143 } [.ref (E.2.2 + 0), iV p1] WW WW σ (xrS (m_X12_vanOf n p1 σ)) := by
  refine xMet.of0 (by decide) (Nat.le_of_ble_eq_true rfl) rfl rfl (fun X hE C => ?_)
  subst hE
  exact xMap (fun q => (some (iV q.1), q.2)) (wk_X12_vanOf C (fun _ _ => rfl) )
theorem mt_X12_vanOf : xMth yX12_vanOf cX12_vanOf 2 (some .int) 1 := ⟨wd1275, wd151, ⟨by decide, by decide, rfl⟩⟩
theorem vr_X12_vanOf : xVir yX12_vanOf := ⟨wd1273, wd1274⟩
def m_X12_arrivalMinute (n : Nat) (p1 : Int) (σ : xS) : Option (Int × xS) :=
  if (zI (σ 0 8)) = 0 then some ((-2), σ) else if (m_X1_hasShop (bkA (σ 0 3)) p1 σ) = 0 then some ((-1), σ) else (m_X12_bestPlan n σ).bind fun s3 => (m_X8_vanFor n 139 p1 s3).bind fun v4 => xj (fun (q7 : Int) => some (q7, s3)) fun J5 => if (zI v4) = (-1) then J5 (-1) else xck (zI p1) 7 <| J5 (s3 (139 + 11) (zI p1).toNat)
set_option maxHeartbeats 4000000 in
set_option maxRecDepth 100000 in
theorem wk_X12_arrivalMinute {X : xX} {Qf : (Int × xS) → State → Prop} {n : Nat} {p1 : Int} {σ : xS} (C : xCx X cX12_arrivalMinute "BakeryNight" (some .int) { frames := 6, cells := 0, slots := 0, locals := 143 } 3) (hQ : ∀ v τ, Qf (v, τ) = xQf X WW (some (iV v), τ))  : WO X Qf WW σ 0 [(0, .ref ((xXE X).2.2 + 0)), (1, iV p1)] [] (m_X12_arrivalMinute n p1 σ) := by
  unfold m_X12_arrivalMinute
  refine x_aload_n C 0 dX12_arrivalMinute_0 rfl rfl ?_
  refine x_get (v := iV (σ 0 8)) C 8 cls_X12 at_X12 (by decide) wd683 rfl rfl dX12_arrivalMinute_1 ?_
  refine x_if_ne C 10 rfl dX12_arrivalMinute_4 rfl (fun c1 => x_on c1 ?_) (fun c1 => x_op c1 ?_)
  · refine x_aload_n C 0 dX12_arrivalMinute_10 rfl rfl ?_
    refine x_get (v := .ref ((xXE X).2.2 + (bkA (σ 0 3)))) C 3 cls_X12 at_X12 (by decide) wd678 rfl rfl dX12_arrivalMinute_11 ?_
    refine x_iload_n C 1 dX12_arrivalMinute_14 rfl rfl ?_
    refine x_callV C (ct_X1_hasShop _ _ (bkA (σ 0 3)) p1 σ (bk_A (σ 0 3))) mt_X1_hasShop vr_X1_hasShop wd1000 cls_X1 (at_X1 (bk_A (σ 0 3))) rfl ⟨rfl, rfl, Nat.le_of_ble_eq_true rfl, Nat.le_of_ble_eq_true rfl⟩ rfl (by decide) dX12_arrivalMinute_15 (kP ?_)
    refine x_if_ne C 23 (zI_bo (bo_X1_hasShop _ _ _)) dX12_arrivalMinute_18 rfl (fun c2 => x_on c2 ?_) (fun c2 => x_op c2 ?_)
    · refine x_aload_n C 0 dX12_arrivalMinute_23 rfl rfl ?_
      refine x_callV C (ct_X12_bestPlan _ _ n σ) mt_X12_bestPlan vr_X12_bestPlan wd1222 cls_X12 at_X12 rfl ⟨rfl, rfl, Nat.le_of_ble_eq_true rfl, Nat.le_of_ble_eq_true rfl⟩ rfl (by decide) dX12_arrivalMinute_24 (kR (fun s3 => ?_))
      refine x_astore_n (L' := [(2, _), (0, _), (1, _)]) C dX12_arrivalMinute_27 rfl (by decide) rfl ?_
      refine x_aload_n C 0 dX12_arrivalMinute_28 rfl rfl ?_
      refine x_iload_n C 2 dX12_arrivalMinute_29 rfl rfl ?_
      refine x_callV C (ct_X8_vanFor _ _ n 139 p1 s3 (Or.inl rfl)) mt_X8_vanFor vr_X8_vanFor wd1276 cls_X8 (at_X8 (Or.inl rfl)) rfl ⟨rfl, rfl, Nat.le_of_ble_eq_true rfl, Nat.le_of_ble_eq_true rfl⟩ rfl (by decide) dX12_arrivalMinute_30 (kI (fun v4 => ?_))
      refine x_iconst C (-1) dX12_arrivalMinute_33 rfl ?_
      refine x_join (fun J => ∀ q7 : Int, WO X Qf WW s3 47 [] [iV q7] (J q7)) ?_ ?_
      · intro q7
        exact x_iretQ C (hQ _ _) rfl dX12_arrivalMinute_47
      · intro J5 hJ6
        refine x_icmp_ne C 41 rfl (zIl _ rfl) dX12_arrivalMinute_34 rfl (fun c8 => x_on c8 ?_) (fun c8 => x_op c8 ?_)
        · refine x_aload_n C 0 dX12_arrivalMinute_41 rfl rfl ?_
          refine x_get (v := .ref ((xXE X).2.2 + (139 + 11))) C 14 cls_X8 (at_X8 (Or.inl rfl)) (by decide) wd643 rfl (xV_r (rt_X8_arrival (Or.inl rfl) _) rfl) dX12_arrivalMinute_42 ?_
          refine x_iload_n C 2 dX12_arrivalMinute_45 rfl rfl ?_
          refine x_iald C (at_X8_arrival (Or.inl rfl)) rfl dX12_arrivalMinute_46 (fun _ => ?_)
          refine x_pick [] rfl ?_
          exact hJ6 (s3 (139 + 11) (zI p1).toNat)
        · refine x_iconst C (-1) dX12_arrivalMinute_37 rfl ?_
          refine x_goto C 47 dX12_arrivalMinute_38 rfl ?_
          refine x_pick [] rfl ?_
          exact hJ6 (-1)
    · refine x_iconst C (-1) dX12_arrivalMinute_21 rfl ?_
      exact x_iretQ C (hQ _ _) rfl dX12_arrivalMinute_22
  · refine x_bipush C (-2) dX12_arrivalMinute_7 rfl ?_
    exact x_iretQ C (hQ _ _) rfl dX12_arrivalMinute_9
theorem ct_X12_arrivalMinute (l : Launch) (E : xE) (n : Nat) (p1 : Int) (σ : xS)   : xMet l E yX12_arrivalMinute cX12_arrivalMinute 3 (some .int) { frames := 6, cells := 0, slots := 0, locals := 143 } [.ref (E.2.2 + 0), iV p1] WW WW σ (xrS (m_X12_arrivalMinute n p1 σ)) := by
  refine xMet.of0 (by decide) (Nat.le_of_ble_eq_true rfl) rfl rfl (fun X hE C => ?_)
  subst hE
  exact xMap (fun q => (some (iV q.1), q.2)) (wk_X12_arrivalMinute C (fun _ _ => rfl) )
theorem mt_X12_arrivalMinute : xMth yX12_arrivalMinute cX12_arrivalMinute 3 (some .int) 1 := ⟨wd1283, wd151, ⟨by decide, by decide, rfl⟩⟩
theorem vr_X12_arrivalMinute : xVir yX12_arrivalMinute := ⟨wd1281, wd1282⟩
def m_X12_departureMinute (n : Nat) (p1 : Int) (σ : xS) : Option (Int × xS) :=
  if (zI (σ 0 8)) = 0 then some ((-2), σ) else xj (fun (q5 : xS × Int) => some (q5.2, q5.1)) fun J3 => if (m_X1_hasVan (bkA (σ 0 3)) p1 σ) = 0 then J3 (σ, (-1)) else (m_X12_bestPlan n σ).bind fun s7 => (m_X8_departureOf n 139 p1 s7).bind fun v8 => J3 (s7, v8)
set_option maxHeartbeats 4000000 in
set_option maxRecDepth 100000 in
theorem wk_X12_departureMinute {X : xX} {Qf : (Int × xS) → State → Prop} {n : Nat} {p1 : Int} {σ : xS} (C : xCx X cX12_departureMinute "BakeryNight" (some .int) { frames := 6, cells := 0, slots := 0, locals := 143 } 2) (hQ : ∀ v τ, Qf (v, τ) = xQf X WW (some (iV v), τ))  : WO X Qf WW σ 0 [(0, .ref ((xXE X).2.2 + 0)), (1, iV p1)] [] (m_X12_departureMinute n p1 σ) := by
  unfold m_X12_departureMinute
  refine x_aload_n C 0 dX12_departureMinute_0 rfl rfl ?_
  refine x_get (v := iV (σ 0 8)) C 8 cls_X12 at_X12 (by decide) wd683 rfl rfl dX12_departureMinute_1 ?_
  refine x_if_ne C 10 rfl dX12_departureMinute_4 rfl (fun c1 => x_on c1 ?_) (fun c1 => x_op c1 ?_)
  · refine x_aload_n C 0 dX12_departureMinute_10 rfl rfl ?_
    refine x_get (v := .ref ((xXE X).2.2 + (bkA (σ 0 3)))) C 3 cls_X12 at_X12 (by decide) wd678 rfl rfl dX12_departureMinute_11 ?_
    refine x_iload_n C 1 dX12_departureMinute_14 rfl rfl ?_
    refine x_callV C (ct_X1_hasVan _ _ (bkA (σ 0 3)) p1 σ (bk_A (σ 0 3))) mt_X1_hasVan vr_X1_hasVan wd1288 cls_X1 (at_X1 (bk_A (σ 0 3))) rfl ⟨rfl, rfl, Nat.le_of_ble_eq_true rfl, Nat.le_of_ble_eq_true rfl⟩ rfl (by decide) dX12_departureMinute_15 (kP ?_)
    refine x_join (fun J => ∀ q5 : xS × Int, WO X Qf WW q5.1 33 [] [iV q5.2] (J q5)) ?_ ?_
    · intro q5
      exact x_iretQ C (hQ _ _) rfl dX12_departureMinute_33
    · intro J3 hJ4
      refine x_if_eq C 32 (zI_bo (bo_X1_hasVan _ _ _)) dX12_departureMinute_18 rfl (fun c6 => x_op c6 ?_) (fun c6 => x_on c6 ?_)
      · refine x_iconst C (-1) dX12_departureMinute_32 rfl ?_
        refine x_pick [] rfl ?_
        exact hJ4 (σ, (-1))
      · refine x_aload_n C 0 dX12_departureMinute_21 rfl rfl ?_
        refine x_callV C (ct_X12_bestPlan _ _ n σ) mt_X12_bestPlan vr_X12_bestPlan wd1222 cls_X12 at_X12 rfl ⟨rfl, rfl, Nat.le_of_ble_eq_true rfl, Nat.le_of_ble_eq_true rfl⟩ rfl (by decide) dX12_departureMinute_22 (kR (fun s7 => ?_))
        refine x_iload_n C 1 dX12_departureMinute_25 rfl rfl ?_
        refine x_callV C (ct_X8_departureOf _ _ n 139 p1 s7 (Or.inl rfl)) mt_X8_departureOf vr_X8_departureOf wd1292 cls_X8 (at_X8 (Or.inl rfl)) rfl ⟨rfl, rfl, Nat.le_of_ble_eq_true rfl, Nat.le_of_ble_eq_true rfl⟩ rfl (by decide) dX12_departureMinute_26 (kI (fun v8 => ?_))
        refine x_goto C 33 dX12_departureMinute_29 rfl ?_
        refine x_pick [] rfl ?_
        exact hJ4 (s7, v8)
  · refine x_bipush C (-2) dX12_departureMinute_7 rfl ?_
    exact x_iretQ C (hQ _ _) rfl dX12_departureMinute_9
theorem ct_X12_departureMinute (l : Launch) (E : xE) (n : Nat) (p1 : Int) (σ : xS)   : xMet l E yX12_departureMinute cX12_departureMinute 2 (some .int) { frames := 6, cells := 0, slots := 0, locals := 143 } [.ref (E.2.2 + 0), iV p1] WW WW σ (xrS (m_X12_departureMinute n p1 σ)) := by
  refine xMet.of0 (by decide) (Nat.le_of_ble_eq_true rfl) rfl rfl (fun X hE C => ?_)
  subst hE
  exact xMap (fun q => (some (iV q.1), q.2)) (wk_X12_departureMinute C (fun _ _ => rfl) )
theorem mt_X12_departureMinute : xMth yX12_departureMinute cX12_departureMinute 2 (some .int) 1 := ⟨wd1287, wd151, ⟨by decide, by decide, rfl⟩⟩
theorem vr_X12_departureMinute : xVir yX12_departureMinute := ⟨wd1285, wd1286⟩
def m_X12_staleOrders (n : Nat) (σ : xS) : Option (Int × xS) :=
  if (zI (σ 0 8)) = 0 then some ((-2), σ) else (m_X12_bestPlan n σ).bind fun s2 => xj (fun (q6 : Int) => some (q6, s2)) fun J4 => if (zI (s2 139 11)) = 0 then J4 (-1) else (m_X8_staleTotal n 139 (bkA (s2 0 3)) 118 s2).bind fun v8 => J4 v8
set_option maxHeartbeats 4000000 in
set_option maxRecDepth 100000 in
theorem wk_X12_staleOrders {X : xX} {Qf : (Int × xS) → State → Prop} {n : Nat} {σ : xS} (C : xCx X cX12_staleOrders "BakeryNight" (some .int) { frames := 6, cells := 0, slots := 0, locals := 143 } 2) (hQ : ∀ v τ, Qf (v, τ) = xQf X WW (some (iV v), τ))  : WO X Qf WW σ 0 [(0, .ref ((xXE X).2.2 + 0))] [] (m_X12_staleOrders n σ) := by
  unfold m_X12_staleOrders
  refine x_aload_n C 0 dX12_staleOrders_0 rfl rfl ?_
  refine x_get (v := iV (σ 0 8)) C 8 cls_X12 at_X12 (by decide) wd683 rfl rfl dX12_staleOrders_1 ?_
  refine x_if_ne C 10 rfl dX12_staleOrders_4 rfl (fun c1 => x_on c1 ?_) (fun c1 => x_op c1 ?_)
  · refine x_aload_n C 0 dX12_staleOrders_10 rfl rfl ?_
    refine x_callV C (ct_X12_bestPlan _ _ n σ) mt_X12_bestPlan vr_X12_bestPlan wd1222 cls_X12 at_X12 rfl ⟨rfl, rfl, Nat.le_of_ble_eq_true rfl, Nat.le_of_ble_eq_true rfl⟩ rfl (by decide) dX12_staleOrders_11 (kR (fun s2 => ?_))
    refine x_astore_n (L' := [(1, _), (0, _)]) C dX12_staleOrders_14 rfl (by decide) rfl ?_
    refine x_aload_n C 0 dX12_staleOrders_15 rfl rfl ?_
    refine x_get (v := iV (s2 139 11)) C 11 cls_X8 (at_X8 (Or.inl rfl)) (by decide) wd638 rfl rfl dX12_staleOrders_16 ?_
    refine x_join (fun J => ∀ q6 : Int, WO X Qf WW s2 38 [] [iV q6] (J q6)) ?_ ?_
    · intro q6
      exact x_iretQ C (hQ _ _) rfl dX12_staleOrders_38
    · intro J4 hJ5
      refine x_if_eq C 37 rfl dX12_staleOrders_19 rfl (fun c7 => x_op c7 ?_) (fun c7 => x_on c7 ?_)
      · refine x_iconst C (-1) dX12_staleOrders_37 rfl ?_
        refine x_pick [] rfl ?_
        exact hJ5 (-1)
      · refine x_aload_n C 0 dX12_staleOrders_22 rfl rfl ?_
        refine x_aload_n C 1 dX12_staleOrders_23 rfl rfl ?_
        refine x_get (v := .ref ((xXE X).2.2 + (bkA (s2 0 3)))) C 3 cls_X12 at_X12 (by decide) wd678 rfl rfl dX12_staleOrders_24 ?_
        refine x_aload_n C 1 dX12_staleOrders_27 rfl rfl ?_
        refine x_get (v := .ref ((xXE X).2.2 + 118)) C 6 cls_X12 at_X12 (by decide) wd681 rfl (xV_r (rt_X12_night  _) rfl) dX12_staleOrders_28 ?_
        refine x_callV C (ct_X8_staleTotal _ _ n 139 (bkA (s2 0 3)) 118 s2 (Or.inl rfl) (bk_A (s2 0 3)) (by first | exact Or.inl rfl | exact Or.inr rfl)) mt_X8_staleTotal vr_X8_staleTotal wd1300 cls_X8 (at_X8 (Or.inl rfl)) rfl ⟨rfl, rfl, Nat.le_of_ble_eq_true rfl, Nat.le_of_ble_eq_true rfl⟩ rfl (by decide) dX12_staleOrders_31 (kI (fun v8 => ?_))
        refine x_goto C 38 dX12_staleOrders_34 rfl ?_
        refine x_pick [] rfl ?_
        exact hJ5 v8
  · refine x_bipush C (-2) dX12_staleOrders_7 rfl ?_
    exact x_iretQ C (hQ _ _) rfl dX12_staleOrders_9
theorem ct_X12_staleOrders (l : Launch) (E : xE) (n : Nat) (σ : xS)   : xMet l E yX12_staleOrders cX12_staleOrders 2 (some .int) { frames := 6, cells := 0, slots := 0, locals := 143 } [.ref (E.2.2 + 0)] WW WW σ (xrS (m_X12_staleOrders n σ)) := by
  refine xMet.of0 (by decide) (Nat.le_of_ble_eq_true rfl) rfl rfl (fun X hE C => ?_)
  subst hE
  exact xMap (fun q => (some (iV q.1), q.2)) (wk_X12_staleOrders C (fun _ _ => rfl) )
theorem mt_X12_staleOrders : xMth yX12_staleOrders cX12_staleOrders 2 (some .int) 0 := ⟨wd1299, wd151, ⟨by decide, by decide, rfl⟩⟩
theorem vr_X12_staleOrders : xVir yX12_staleOrders := ⟨wd1297, wd1298⟩
