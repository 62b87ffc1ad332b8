/-! letters of a String -/
theorem tc_J3_checkIndex_n (l : Launch) (E : xE) (A : Nat → Prop) (ss : tSs) (M : tMp) (i n : Nat) (hi : i < n) (hn : n < 100000) : tMet l E yJ3_checkIndex_8e157 cJ3_checkIndex_8e157 3 (some .int) { frames := 0, cells := 0, slots := 0, locals := 0 } [iV (i : Int), iV (n : Int), .null] A ss M (fun r M2 => r = some (iV (i : Int)) ∧ M2 = M) := by
  refine tMet.of (by decide) (Nat.le_of_ble_eq_true rfl) fun X hE hl hnm C => ?_
  subst hE
  refine tw_iload_n C 0 dJ3_checkIndex_8e157_0 rfl rfl ?_
  refine tw_if_lt C 9 (x' := (i : Int)) (zN i (by omega)) dJ3_checkIndex_8e157_1 rfl (fun hc => absurd hc (by omega)) (fun _ => ?_)
  refine tw_iload_n C 0 dJ3_checkIndex_8e157_4 rfl rfl ?_
  refine tw_iload_n C 1 dJ3_checkIndex_8e157_5 rfl rfl ?_
  refine tw_icmp_lt C 16 (x' := (i : Int)) (y' := (n : Int)) (zN i (by omega)) (zN n (by omega)) dJ3_checkIndex_8e157_6 rfl (fun _ => ?_) (fun hc => absurd (by omega) hc)
  refine tw_iload_n C 0 dJ3_checkIndex_8e157_16 rfl rfl ?_
  exact tw_iret C ⟨rfl, rfl⟩ rfl ⟨Nat.zero_le _, Nat.zero_le _⟩ dJ3_checkIndex_8e157_17
theorem tc_J3_checkIndex_r (l : Launch) (E : xE) (A : Nat → Prop) (ss : tSs) (M : tMp) (i n : Nat) (hi : i < n) (hn : n < 100000) (q : Nat) : tMet l E yJ3_checkIndex_8e157 cJ3_checkIndex_8e157 3 (some .int) { frames := 0, cells := 0, slots := 0, locals := 0 } [iV (i : Int), iV (n : Int), (.ref q)] A ss M (fun r M2 => r = some (iV (i : Int)) ∧ M2 = M) := by
  refine tMet.of (by decide) (Nat.le_of_ble_eq_true rfl) fun X hE hl hnm C => ?_
  subst hE
  refine tw_iload_n C 0 dJ3_checkIndex_8e157_0 rfl rfl ?_
  refine tw_if_lt C 9 (x' := (i : Int)) (zN i (by omega)) dJ3_checkIndex_8e157_1 rfl (fun hc => absurd hc (by omega)) (fun _ => ?_)
  refine tw_iload_n C 0 dJ3_checkIndex_8e157_4 rfl rfl ?_
  refine tw_iload_n C 1 dJ3_checkIndex_8e157_5 rfl rfl ?_
  refine tw_icmp_lt C 16 (x' := (i : Int)) (y' := (n : Int)) (zN i (by omega)) (zN n (by omega)) dJ3_checkIndex_8e157_6 rfl (fun _ => ?_) (fun hc => absurd (by omega) hc)
  refine tw_iload_n C 0 dJ3_checkIndex_8e157_16 rfl rfl ?_
  exact tw_iret C ⟨rfl, rfl⟩ rfl ⟨Nat.zero_le _, Nat.zero_le _⟩ dJ3_checkIndex_8e157_17
theorem tc_J0_checkIndex_df160 (l : Launch) (E : xE) (A : Nat → Prop) (ss : tSs) (M : tMp) (i n : Nat) (hi : i < n) (hn : n < 100000) : tMet l E yJ0_checkIndex_df160 cJ0_checkIndex_df160 2 none { frames := 1, cells := 0, slots := 0, locals := 45 } [iV (i : Int), iV (n : Int)] A ss M (fun r M2 => r = none ∧ M2 = M) := by
  refine tMet.of (by decide) (Nat.le_of_ble_eq_true rfl) fun X hE hl hnm C => ?_
  subst hE
  rcases C.2.2.2.2.2.2.2.2.2.2.2.2.1 with hz | ⟨q, hz⟩
  · refine tw_iload_n C 0 dJ0_checkIndex_df160_0 rfl rfl ?_
    refine tw_iload_n C 1 dJ0_checkIndex_df160_1 rfl rfl ?_
    refine tw_gstat C hz wd893 rfl dJ0_checkIndex_df160_2 ?_
    refine tw_callS C (tGo_same C) (As := [iV (i : Int), iV (n : Int), .null]) (tc_J3_checkIndex_n _ _ _ _ _ i n hi hn) mt_J3_checkIndex_8e157 st_J3_checkIndex_8e157 wd895 rfl ⟨(Nat.le_of_ble_eq_true rfl), (Nat.le_of_ble_eq_true rfl)⟩ ⟨Nat.zero_le _, Nat.zero_le _⟩ (rfl) (Nat.le_of_ble_eq_true rfl) dJ0_checkIndex_df160_5 ?_
    rintro _ MQ ⟨rfl, hQ⟩
    have hQ := hQ.symm
    subst hQ
    show TO X A _ _ 0 0 8 _ (iV _ :: [])
    refine tw_pop C dJ0_checkIndex_df160_8 rfl ?_
    exact tw_vret C ⟨rfl, rfl⟩ rfl ⟨Nat.zero_le _, Nat.zero_le _⟩ dJ0_checkIndex_df160_9
  · refine tw_iload_n C 0 dJ0_checkIndex_df160_0 rfl rfl ?_
    refine tw_iload_n C 1 dJ0_checkIndex_df160_1 rfl rfl ?_
    refine tw_gstat C hz wd893 rfl dJ0_checkIndex_df160_2 ?_
    refine tw_callS C (tGo_same C) (As := [iV (i : Int), iV (n : Int), .ref q]) (tc_J3_checkIndex_r _ _ _ _ _ i n hi hn q) mt_J3_checkIndex_8e157 st_J3_checkIndex_8e157 wd895 rfl ⟨(Nat.le_of_ble_eq_true rfl), (Nat.le_of_ble_eq_true rfl)⟩ ⟨Nat.zero_le _, Nat.zero_le _⟩ (rfl) (Nat.le_of_ble_eq_true rfl) dJ0_checkIndex_df160_5 ?_
    rintro _ MQ ⟨rfl, hQ⟩
    have hQ := hQ.symm
    subst hQ
    show TO X A _ _ 0 0 8 _ (iV _ :: [])
    refine tw_pop C dJ0_checkIndex_df160_8 rfl ?_
    exact tw_vret C ⟨rfl, rfl⟩ rfl ⟨Nat.zero_le _, Nat.zero_le _⟩ dJ0_checkIndex_df160_9
theorem chr_ok : ∀ x : Nat, x < 128 → iV (zi2c (zand (x : Int) 255)) = iV (x : Int) ∧ narrow .char (iV (x : Int)) = iV (x : Int) := by decide +kernel
theorem tc_J1_charAt_3b067 (l : Launch) (E : xE) (A : Nat → Prop) (ss : tSs) (M : tMp) (a w m : Nat) (g : Nat → Int32) (hS : .inl (a, w, m, g) ∈ ss) (i c : Nat) (hi : i < m) (hm : m < 100000) (hg : (g i).toInt = (c : Int)) (hc : c < 128) : tMet l E yJ1_charAt_3b067 cJ1_charAt_3b067 2 (some .char) { frames := 2, cells := 0, slots := 0, locals := 90 } [.ref w, iV (i : Int)] A ss M (fun r M2 => r = some (iV (c : Int)) ∧ M2 = M) := by
  refine tMet.of (by decide) (Nat.le_of_ble_eq_true rfl) fun X hE hl hnm C => ?_
  subst hE
  have hs : Str a w m g A (xXs X) (xXs X).heap := C.2.2.2.2.2.2.2.2.2.2.2.2.2.2.2 _ hS
  refine tw_iload_n C 1 dJ1_charAt_3b067_0 rfl rfl ?_
  refine tw_aload_n C 0 dJ1_charAt_3b067_1 rfl rfl ?_
  refine tw_lenT C hs.2.2.2 (m : Int) (ofN _) dJ1_charAt_3b067_2 ?_
  refine tw_callS C (tGo_same C) (As := [iV (i : Int), iV (m : Int)]) (tc_J0_checkIndex_df160 _ _ _ _ _ i m hi hm) mt_J0_checkIndex_df160 st_J0_checkIndex_df160 wd890 rfl ⟨(Nat.le_of_ble_eq_true rfl), (Nat.le_of_ble_eq_true rfl)⟩ ⟨Nat.zero_le _, Nat.zero_le _⟩ (rfl) (Nat.le_of_ble_eq_true rfl) dJ1_charAt_3b067_3 ?_
  rintro _ MQ ⟨rfl, hQ⟩
  have hQ := hQ.symm
  subst hQ
  show TO X A _ _ 0 0 6 _ []
  refine tw_aload_n C 0 dJ1_charAt_3b067_6 rfl rfl ?_
  refine tw_iload_n C 1 dJ1_charAt_3b067_7 rfl rfl ?_
  refine tw_bldT C hs.2.2.2 (i' := (i : Int)) (zN i (by omega)) (by omega) (by omega) dJ1_charAt_3b067_8 ?_
  rw [show (g ((i : Int)).toNat).toInt = (c : Int) from hg]
  refine tw_sipush C (255) dJ1_charAt_3b067_9 rfl ?_
  refine tw_iand C dJ1_charAt_3b067_12 ?_
  refine tw_i2c C dJ1_charAt_3b067_13 ?_
  exact tw_zret C ⟨congrArg some (chr_ok c hc).1, rfl⟩ rfl (by rw [(chr_ok c hc).1]; exact (chr_ok c hc).2) ⟨Nat.zero_le _, Nat.zero_le _⟩ dJ1_charAt_3b067_14
theorem tc_J0_charAt_5068e (l : Launch) (E : xE) (A : Nat → Prop) (ss : tSs) (M : tMp) (a w m : Nat) (g : Nat → Int32) (hS : .inl (a, w, m, g) ∈ ss) (i c : Nat) (hi : i < m) (hm : m < 100000) (hg : (g i).toInt = (c : Int)) (hc : c < 128) : tMet l E yJ0_charAt_5068e cJ0_charAt_5068e 2 (some .char) { frames := 3, cells := 0, slots := 0, locals := 135 } [.ref a, iV (i : Int)] A ss M (fun r M2 => r = some (iV (c : Int)) ∧ M2 = M) := by
  refine tMet.of (by decide) (Nat.le_of_ble_eq_true rfl) fun X hE hl hnm C => ?_
  subst hE
  have hs : Str a w m g A (xXs X) (xXs X).heap := C.2.2.2.2.2.2.2.2.2.2.2.2.2.2.2 _ hS
  refine tw_aload_n C 0 dJ0_charAt_5068e_0 rfl rfl ?_
  refine tw_callV C (tGo_same C) (As := []) (tc_J0_isLatin1_aae02 _ _ _ _ _ a w m g hS) mt_J0_isLatin1_aae02 vr_J0_isLatin1_aae02 wd883 (tRc_S C hs) rfl ⟨(Nat.le_of_ble_eq_true rfl), (Nat.le_of_ble_eq_true rfl)⟩ ⟨Nat.zero_le _, Nat.zero_le _⟩ (rfl) (Nat.le_of_ble_eq_true rfl) dJ0_charAt_5068e_1 ?_
  rintro _ MQ ⟨rfl, hQ⟩
  have hQ := hQ.symm
  subst hQ
  show TO X A _ _ 0 0 4 _ (iV 1 :: [])
  refine tw_if_eq C 16 (x' := 1) (zI_eq (by decide) (by decide)) dJ0_charAt_5068e_4 rfl (fun hc => absurd hc (by decide)) (fun _ => ?_)
  refine tw_aload_n C 0 dJ0_charAt_5068e_7 rfl rfl ?_
  refine tw_gets C hs.2.2.1 wd1309 rfl dJ0_charAt_5068e_8 ?_
  refine tw_iload_n C 1 dJ0_charAt_5068e_11 rfl rfl ?_
  refine tw_callS C (tGo_same C) (As := [.ref w, iV (i : Int)]) (tc_J1_charAt_3b067 _ _ _ _ _ a w m g hS i c hi hm hg hc) mt_J1_charAt_3b067 st_J1_charAt_3b067 wd887 rfl ⟨(Nat.le_of_ble_eq_true rfl), (Nat.le_of_ble_eq_true rfl)⟩ ⟨Nat.zero_le _, Nat.zero_le _⟩ (rfl) (Nat.le_of_ble_eq_true rfl) dJ0_charAt_5068e_12 ?_
  rintro _ MQ ⟨rfl, hQ⟩
  have hQ := hQ.symm
  subst hQ
  show TO X A _ _ 0 0 15 _ (iV _ :: [])
  exact tw_zret C ⟨rfl, rfl⟩ rfl (chr_ok c hc).2 ⟨Nat.zero_le _, Nat.zero_le _⟩ dJ0_charAt_5068e_15
