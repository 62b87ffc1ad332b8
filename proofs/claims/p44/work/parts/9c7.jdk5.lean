/-! toString; letters of a String -/
theorem tc_J7_checkLength_df160 (l : Launch) (E : xE) (A : Nat → Prop) (ss : tSs) (M : tMp) (n : Nat) (hn : n < 100000) : tMet l E yJ7_checkLength_df160 cJ7_checkLength_df160 2 none { frames := 0, cells := 0, slots := 0, locals := 0 } [iV 0, iV (n : Int)] A ss M (fun r M2 => r = none ∧ M2 = M) := by
  refine tMet.of (by decide) (Nat.le_of_ble_eq_true rfl) fun X hE hl hnm C => ?_
  subst hE
  refine tw_iload_n C 1 dJ7_checkLength_df160_0 rfl rfl ?_
  refine tw_iload_n C 0 dJ7_checkLength_df160_1 rfl rfl ?_
  refine tw_icmp_ge C 37 (x' := (n : Int)) (y' := 0) (zN n (by omega)) (zI_eq (by decide) (by decide)) dJ7_checkLength_df160_2 rfl (fun _ => ?_) (fun hc => absurd (by omega) hc)
  exact tw_vret C ⟨rfl, rfl⟩ rfl ⟨Nat.zero_le _, Nat.zero_le _⟩ dJ7_checkLength_df160_37
theorem tc_J7_copyOfRangeByte_39247 (l : Launch) (E : xE) (A : Nat → Prop) (ss : tSs) (M : tMp) (w cap n : Nat) (f : Nat → Int32) (hw : M w = some (.inl (E.2.1.1 2, cap, .inl f))) (hf : bF f) (hn : n ≤ cap) (hc : cap ≤ 4000) : tMet l E yJ7_copyOfRangeByte_39247 cJ7_copyOfRangeByte_39247 5 (some (.array .byte)) { frames := 1, cells := 1, slots := 4000, locals := 45 } [.ref w, iV 0, iV (n : Int)] A ss M (fun r M2 => ∃ a f2, (∀ b e, M b = some e → b ≠ a) ∧ r = some (.ref a) ∧ M2 = tU M a (.inl (E.2.1.1 2, n, .inl f2)) ∧ bF f2 ∧ ∀ k, k < n → f2 k = f k) := by
  refine tMet.of (by decide) (Nat.le_of_ble_eq_true rfl) fun X hE hl hnm C => ?_
  subst hE
  refine tw_iload_n C 1 dJ7_copyOfRangeByte_39247_0 rfl rfl ?_
  refine tw_iload_n C 2 dJ7_copyOfRangeByte_39247_1 rfl rfl ?_
  refine tw_callS C (tGo_same C) (As := [iV 0, iV (n : Int)]) (tc_J7_checkLength_df160 _ _ _ _ _ n (by omega)) mt_J7_checkLength_df160 st_J7_checkLength_df160 wd1296 rfl ⟨(Nat.le_of_ble_eq_true rfl), (Nat.le_of_ble_eq_true rfl)⟩ ⟨Nat.zero_le _, Nat.zero_le _⟩ (rfl) (Nat.le_of_ble_eq_true rfl) dJ7_copyOfRangeByte_39247_2 ?_
  rintro _ M9 ⟨rfl, h9⟩
  obtain rfl : M = M9 := h9.symm
  show TO X A _ _ 0 0 _ _ []
  refine tw_iload_n C 2 dJ7_copyOfRangeByte_39247_5 rfl rfl ?_
  refine tw_iload_n C 1 dJ7_copyOfRangeByte_39247_6 rfl rfl ?_
  refine tw_isub C dJ7_copyOfRangeByte_39247_7 ?_
  refine tw_istore_n C dJ7_copyOfRangeByte_39247_8 rfl (by decide) rfl ?_
  refine tw_iload_n C 0 dJ7_copyOfRangeByte_39247_9 rfl rfl ?_
  rw [show (n : Int) - 0 = (n : Int) from Int.sub_zero _]
  refine tw_newB C wdAB (n := n) (ofN n).symm (by omega) dJ7_copyOfRangeByte_39247_10 (Nat.le_refl _) (by show 0 + n ≤ 4000; omega) (fun a ha => ?_)
  have hw1 := (tU_ne (M := M) (e := .inl ((xXE X).2.1.1 2, n, .inl (fun _ => 0))) (ha _ _ hw)).trans hw
  refine tw_astore C dJ7_copyOfRangeByte_39247_12 (by decide) rfl ?_
  refine tw_aload_n C 2 dJ7_copyOfRangeByte_39247_14 rfl rfl ?_
  refine tw_iload_n C 3 dJ7_copyOfRangeByte_39247_15 rfl rfl ?_
  refine tw_aload C 0 dJ7_copyOfRangeByte_39247_16 rfl ?_
  refine tw_iconst C (0) dJ7_copyOfRangeByte_39247_18 rfl ?_
  refine tw_aload_n C 2 dJ7_copyOfRangeByte_39247_19 rfl rfl ?_
  refine tw_len C hw1 (cap : Int) (ofN _) dJ7_copyOfRangeByte_39247_20 ?_
  refine tw_iload_n C 3 dJ7_copyOfRangeByte_39247_21 rfl rfl ?_
  refine tw_isub C dJ7_copyOfRangeByte_39247_22 ?_
  refine tw_iload_n C 1 dJ7_copyOfRangeByte_39247_23 rfl rfl ?_
  refine tw_mmin C wd1167 wd321 wd58 wd322 (Nat.le_of_ble_eq_true rfl) (Nat.le_of_ble_eq_true rfl) ⟨Nat.le_refl _, by show 0 + n ≤ 4000; omega⟩ dJ7_copyOfRangeByte_39247_24 ?_
  refine tw_copyM C hw1 tU_eq (sp' := 0) (dp' := 0) (n' := n) (zI_eq (by decide) (by decide)) (zI_eq (by decide) (by decide)) (by unfold zmin; rw [Int.sub_zero, zN n (by omega), zN cap (by omega)]; split <;> (first | exact zN n (by omega) | rw [zN cap (by omega)]; omega)) (by omega) (by omega) (fun i _ => hf _) wd1168 wd723 wd722 wd62 (Nat.le_of_ble_eq_true rfl) (Nat.le_of_ble_eq_true rfl) dJ7_copyOfRangeByte_39247_27 ?_
  refine tw_aload C 0 dJ7_copyOfRangeByte_39247_30 rfl ?_
  refine tw_aret C ⟨a, _, ha, rfl, tU_tU, bF_cpy hf bF_0, fun k hk => ?_⟩ rfl (Or.inr ⟨_, rfl⟩) ⟨Nat.le_refl _, by show 0 + n ≤ 4000; omega⟩ dJ7_copyOfRangeByte_39247_32
  unfold va_cpy
  rw [if_pos (by omega), Nat.sub_zero, Nat.zero_add]
theorem tc_J7_copyOfRange_39247 (l : Launch) (E : xE) (A : Nat → Prop) (ss : tSs) (M : tMp) (w cap n : Nat) (f : Nat → Int32) (hw : M w = some (.inl (E.2.1.1 2, cap, .inl f))) (hf : bF f) (hn : n ≤ cap) (hc : cap ≤ 4000) : tMet l E yJ7_copyOfRange_39247 cJ7_copyOfRange_39247 3 (some (.array .byte)) { frames := 2, cells := 1, slots := 4000, locals := 90 } [.ref w, iV 0, iV (n : Int)] A ss M (fun r M2 => ∃ a f2, (∀ b e, M b = some e → b ≠ a) ∧ r = some (.ref a) ∧ M2 = tU M a (.inl (E.2.1.1 2, n, .inl f2)) ∧ bF f2 ∧ ∀ k, k < n → f2 k = f k) := by
  refine tMet.of (by decide) (Nat.le_of_ble_eq_true rfl) fun X hE hl hnm C => ?_
  subst hE
  refine tw_iload_n C 1 dJ7_copyOfRange_39247_0 rfl rfl ?_
  refine tw_if_ne C 10 (x' := 0) (zI_eq (by decide) (by decide)) dJ7_copyOfRange_39247_1 rfl (fun hc => absurd rfl hc) (fun _ => ?_)
  refine tw_iload_n C 2 dJ7_copyOfRange_39247_4 rfl rfl ?_
  refine tw_aload_n C 0 dJ7_copyOfRange_39247_5 rfl rfl ?_
  refine tw_len C hw (cap : Int) (ofN _) dJ7_copyOfRange_39247_6 ?_
  refine tw_icmp_eq C 17 (x' := (n : Int)) (y' := (cap : Int)) (zN n (by omega)) (zN cap (by omega)) dJ7_copyOfRange_39247_7 rfl (fun he => ?_) (fun _ => ?_)
  · refine tw_aload_n C 0 dJ7_copyOfRange_39247_17 rfl rfl ?_
    refine tw_clone C hw (fun i _ => hf i) wd1160 sm_clone wd1162 wd1163 wd1164 C.2.2.2.2.2.2.2.2.2.2.2.2.2.2.1.1.2.1 (Nat.le_of_ble_eq_true rfl) (Nat.le_of_ble_eq_true rfl) (Nat.le_refl _) (by show 0 + cap ≤ 4000; omega) dJ7_copyOfRange_39247_18 (fun q hq => ?_)
    refine tw_cast C tU_eq wd1166 dJ7_copyOfRange_39247_21 ?_
    exact tw_aret C ⟨q, f, hq, rfl, by rw [show n = cap by omega], hf, fun _ _ => rfl⟩ rfl (Or.inr ⟨_, rfl⟩) ⟨Nat.le_refl _, by show 0 + cap ≤ 4000; omega⟩ dJ7_copyOfRange_39247_24
  · refine tw_aload_n C 0 dJ7_copyOfRange_39247_10 rfl rfl ?_
    refine tw_iload_n C 1 dJ7_copyOfRange_39247_11 rfl rfl ?_
    refine tw_iload_n C 2 dJ7_copyOfRange_39247_12 rfl rfl ?_
    refine tw_callS C (tGo_same C) (As := [.ref w, iV 0, iV (n : Int)]) (tc_J7_copyOfRangeByte_39247 _ _ _ _ _ w cap n f hw hf hn hc) mt_J7_copyOfRangeByte_39247 st_J7_copyOfRangeByte_39247 wd1293 rfl ⟨(Nat.le_of_ble_eq_true rfl), (Nat.le_of_ble_eq_true rfl)⟩ ⟨Nat.le_refl _, Nat.le_refl _⟩ (rfl) (Nat.le_of_ble_eq_true rfl) dJ7_copyOfRange_39247_13 ?_
    rintro _ _ ⟨q, f2, k1, rfl, rfl, k2, k3⟩
    show TO X A _ _ 1 4000 _ _ (.ref q :: [])
    exact tw_aret C ⟨q, f2, k1, rfl, rfl, k2, k3⟩ rfl (Or.inr ⟨_, rfl⟩) ⟨Nat.le_refl _, Nat.le_refl _⟩ dJ7_copyOfRange_39247_16
theorem tc_J5_getValue_6d5f1 (l : Launch) (E : xE) (A : Nat → Prop) (ss : tSs) (M : tMp) (b v n cap : Nat) (f : Nat → Int32) (hb : sB E M b v n cap f) : tMet l E yJ5_getValue_6d5f1 cJ5_getValue_6d5f1 1 (some (.array .byte)) { frames := 0, cells := 0, slots := 0, locals := 0 } [.ref b] A ss M (fun r M2 => r = some (.ref v) ∧ M2 = M) := by
  refine tMet.of (by decide) (Nat.le_of_ble_eq_true rfl) fun X hE hl hnm C => ?_
  subst hE
  refine tw_aload_n C 0 dJ5_getValue_6d5f1_0 rfl rfl ?_
  refine tw_get C 0 cls_J4 hb.1 (by decide) wd1115 rfl rfl dJ5_getValue_6d5f1_1 ?_
  exact tw_aret C ⟨rfl, rfl⟩ rfl (Or.inr ⟨_, rfl⟩) ⟨Nat.zero_le _, Nat.zero_le _⟩ dJ5_getValue_6d5f1_4
theorem tc_J5_length_8abf5 (l : Launch) (E : xE) (A : Nat → Prop) (ss : tSs) (M : tMp) (b v n cap : Nat) (f : Nat → Int32) (hb : sB E M b v n cap f) : tMet l E yJ5_length_8abf5 cJ5_length_8abf5 1 (some .int) { frames := 0, cells := 0, slots := 0, locals := 0 } [.ref b] A ss M (fun r M2 => r = some (iV (n : Int)) ∧ M2 = M) := by
  refine tMet.of (by decide) (Nat.le_of_ble_eq_true rfl) fun X hE hl hnm C => ?_
  subst hE
  refine tw_aload_n C 0 dJ5_length_8abf5_0 rfl rfl ?_
  refine tw_get C 3 cls_J4 hb.1 (by decide) wd1118 rfl rfl dJ5_length_8abf5_1 ?_
  exact tw_iret C ⟨rfl, rfl⟩ rfl ⟨Nat.zero_le _, Nat.zero_le _⟩ dJ5_length_8abf5_4
theorem tc_J4_length_8abf5 (l : Launch) (E : xE) (A : Nat → Prop) (ss : tSs) (M : tMp) (b v n cap : Nat) (f : Nat → Int32) (hb : sB E M b v n cap f) : tMet l E yJ4_length_8abf5 cJ4_length_8abf5 1 (some .int) { frames := 1, cells := 0, slots := 0, locals := 45 } [.ref b] A ss M (fun r M2 => r = some (iV (n : Int)) ∧ M2 = M) := by
  refine tMet.of (by decide) (Nat.le_of_ble_eq_true rfl) fun X hE hl hnm C => ?_
  subst hE
  refine tw_aload_n C 0 dJ4_length_8abf5_0 rfl rfl ?_
  refine tw_callSU C (tGo_same C) (As := []) (tc_J5_length_8abf5 _ _ _ _ _ b v n cap f hb) mt_J5_length_8abf5 im_J5_length_8abf5 wd1287 sm_J5_length_8abf5 su_J4 (by decide) (tRc_M C cls_J4 hb.1) rfl ⟨(Nat.le_of_ble_eq_true rfl), (Nat.le_of_ble_eq_true rfl)⟩ ⟨Nat.zero_le _, Nat.zero_le _⟩ (rfl) (Nat.le_of_ble_eq_true rfl) dJ4_length_8abf5_1 ?_
  rintro _ M9 ⟨rfl, h9⟩
  obtain rfl : M = M9 := h9.symm
  show TO X A _ _ 0 0 _ _ (iV (n : Int) :: [])
  exact tw_iret C ⟨rfl, rfl⟩ rfl ⟨Nat.zero_le _, Nat.zero_le _⟩ dJ4_length_8abf5_4
theorem tc_J0_init_db425 (l : Launch) (E : xE) (A : Nat → Prop) (ss : tSs) (M : tMp) (a : Nat) (ha : M a = some (.inr (11, [.null, .int 0, .int 0, .int 0]))) (b v n cap : Nat) (f : Nat → Int32) (hb : sB E M b v n cap f) (hf : bF f) (hn : n ≤ cap) (hc : cap ≤ 4000) : tMet l E yJ0_init_db425 cJ0_init_db425 5 none { frames := 3, cells := 1, slots := 4000, locals := 135 } [.ref a, .ref b, .null] A ss M (fun r M2 => r = none ∧ ∃ v2 f2, M2 a = some (.inr (11, [.ref v2, iV 0, .int 0, .int 0])) ∧ M2 v2 = some (.inl (E.2.1.1 2, n, .inl f2)) ∧ bF f2 ∧ (∀ k, k < n → f2 k = f k) ∧ ∀ w e, w ≠ a → M w = some e → M2 w = some e ∧ w ≠ v2) := by
  refine tMet.of (by decide) (Nat.le_of_ble_eq_true rfl) fun X hE hl hnm C => ?_
  subst hE
  refine tw_aload_n C 0 dJ0_init_db425_0 rfl rfl ?_
  refine tw_objI C wd1275 (Nat.le_of_ble_eq_true rfl) (Nat.le_of_ble_eq_true rfl) (Nat.le_of_ble_eq_true rfl) dJ0_init_db425_1 ?_
  refine tw_aload_n C 1 dJ0_init_db425_4 rfl rfl ?_
  refine tw_callU C (tGo_same C) (x := yJ5_getValue_6d5f1) (As := []) (tc_J5_getValue_6d5f1 _ _ _ _ _ b v n cap f hb) mt_J5_getValue_6d5f1 im_J5_getValue_6d5f1 (va_Nw.of rfl (C.2.2.2.2.1 _ sl_J5_getValue_6d5f1)) wd1276 sm_J5_getValue_6d5f1 im_J5_getValue_6d5f1 mt_J5_getValue_6d5f1.1 mt_J5_getValue_6d5f1.2.2 (tRc_M C cls_J4 hb.1) rfl ⟨(Nat.le_of_ble_eq_true rfl), (Nat.le_of_ble_eq_true rfl)⟩ ⟨Nat.zero_le _, Nat.zero_le _⟩ (rfl) (Nat.le_of_ble_eq_true rfl) dJ0_init_db425_5 ?_
  rintro _ M9 ⟨rfl, h9⟩
  obtain rfl : M = M9 := h9.symm
  show TO X A _ _ 0 0 _ _ (.ref v :: [])
  refine tw_astore_n C dJ0_init_db425_8 rfl (by decide) rfl ?_
  refine tw_aload_n C 2 dJ0_init_db425_9 rfl rfl ?_
  refine tw_callU C (tGo_same C) (x := yJ5_length_8abf5) (As := []) (tc_J4_length_8abf5 _ _ _ _ _ b v n cap f hb) mt_J4_length_8abf5 im_J4_length_8abf5 (va_Nw.of rfl (C.2.2.2.2.1 _ sl_J5_length_8abf5)) wd1281 sm_J5_length_8abf5 im_J5_length_8abf5 mt_J5_length_8abf5.1 mt_J5_length_8abf5.2.2 (tRc_M C cls_J4 hb.1) rfl ⟨(Nat.le_of_ble_eq_true rfl), (Nat.le_of_ble_eq_true rfl)⟩ ⟨Nat.zero_le _, Nat.zero_le _⟩ (rfl) (Nat.le_of_ble_eq_true rfl) dJ0_init_db425_10 ?_
  rintro _ M9 ⟨rfl, h9⟩
  obtain rfl : M = M9 := h9.symm
  show TO X A _ _ 0 0 _ _ (iV (n : Int) :: [])
  refine tw_istore C dJ0_init_db425_13 (by decide) rfl ?_
  refine tw_aload_n C 3 dJ0_init_db425_15 rfl rfl ?_
  refine tw_callU C (tGo_same C) (x := yJ5_isLatin1_aae02) (As := []) (tc_J5_isLatin1_aae02 _ _ _ _ _ b v n cap f hb) mt_J5_isLatin1_aae02 im_J5_isLatin1_aae02 (va_Nw.of rfl (C.2.2.2.2.1 _ sl_J5_isLatin1_aae02)) wd1289 sm_J5_isLatin1_aae02 im_J5_isLatin1_aae02 mt_J5_isLatin1_aae02.1 mt_J5_isLatin1_aae02.2.2 (tRc_M C cls_J4 hb.1) rfl ⟨(Nat.le_of_ble_eq_true rfl), (Nat.le_of_ble_eq_true rfl)⟩ ⟨Nat.zero_le _, Nat.zero_le _⟩ (rfl) (Nat.le_of_ble_eq_true rfl) dJ0_init_db425_16 ?_
  rintro _ M9 ⟨rfl, h9⟩
  obtain rfl : M = M9 := h9.symm
  show TO X A _ _ 0 0 _ _ (iV 1 :: [])
  refine tw_if_eq C 41 (x' := 1) (zI_eq (by decide) (by decide)) dJ0_init_db425_19 rfl (fun hc => absurd hc (by decide)) (fun _ => ?_)
  refine tw_aload_n C 2 dJ0_init_db425_22 rfl rfl ?_
  refine tw_iconst C (0) dJ0_init_db425_23 rfl ?_
  have hba : b ≠ a := fun c => by have h1 := hb.1; rw [c, ha] at h1; cases h1
  have hva : v ≠ a := fun c => by have h1 := hb.2; rw [c, ha] at h1; cases h1
  refine tw_putF C 1 cls_J0 ha (by decide) wd1310 rfl rfl hnm rfl rfl rfl (Nat.le_of_ble_eq_true rfl) dJ0_init_db425_24 ?_
  refine tw_aload_n C 2 dJ0_init_db425_27 rfl rfl ?_
  refine tw_aload_n C 1 dJ0_init_db425_28 rfl rfl ?_
  refine tw_iconst C (0) dJ0_init_db425_29 rfl ?_
  refine tw_iload C 0 dJ0_init_db425_30 rfl ?_
  refine tw_callS C (tGo_same C) (As := [.ref v, iV 0, iV (n : Int)]) (tc_J7_copyOfRange_39247 _ _ _ _ _ v cap n f ((tU_ne hva).trans hb.2) hf hn hc) mt_J7_copyOfRange_39247 st_J7_copyOfRange_39247 wd1290 rfl ⟨(Nat.le_of_ble_eq_true rfl), (Nat.le_of_ble_eq_true rfl)⟩ ⟨Nat.le_refl _, Nat.le_refl _⟩ (rfl) (Nat.le_of_ble_eq_true rfl) dJ0_init_db425_32 ?_
  rintro _ _ ⟨q, f2, k1, rfl, rfl, k2, k3⟩
  show TO X A _ _ 1 4000 _ _ (.ref q :: .ref a :: [])
  refine tw_putF C 0 cls_J0 ((tU_ne (k1 _ _ tU_eq)).trans tU_eq) (by decide) wd1309 rfl rfl hnm rfl rfl rfl (Nat.le_of_ble_eq_true rfl) dJ0_init_db425_35 ?_
  refine tw_goto C 97 dJ0_init_db425_38 rfl ?_
  refine tw_vret C ⟨rfl, q, f2, tU_eq, (tU_ne (k1 a _ tU_eq).symm).trans tU_eq, k2, k3, fun u e h1 h => ?_⟩ rfl ⟨Nat.le_refl _, Nat.le_refl _⟩ dJ0_init_db425_97
  have hu : u ≠ q := k1 u e (by rw [tU_ne h1]; exact h)
  exact ⟨by rw [tU_ne h1, tU_ne hu, tU_ne h1]; exact h, hu⟩
theorem tc_J0_init_81219 (l : Launch) (E : xE) (A : Nat → Prop) (ss : tSs) (M : tMp) (a : Nat) (ha : M a = some (.inr (11, [.null, .int 0, .int 0, .int 0]))) (b v n cap : Nat) (f : Nat → Int32) (hb : sB E M b v n cap f) (hf : bF f) (hn : n ≤ cap) (hc : cap ≤ 4000) : tMet l E yJ0_init_81219 cJ0_init_81219 2 none { frames := 4, cells := 1, slots := 4000, locals := 180 } [.ref a, .ref b] A ss M (fun r M2 => r = none ∧ ∃ v2 f2, M2 a = some (.inr (11, [.ref v2, iV 0, .int 0, .int 0])) ∧ M2 v2 = some (.inl (E.2.1.1 2, n, .inl f2)) ∧ bF f2 ∧ (∀ k, k < n → f2 k = f k) ∧ ∀ w e, w ≠ a → M w = some e → M2 w = some e ∧ w ≠ v2) := by
  refine tMet.of (by decide) (Nat.le_of_ble_eq_true rfl) fun X hE hl hnm C => ?_
  subst hE
  refine tw_aload_n C 0 dJ0_init_81219_0 rfl rfl ?_
  refine tw_aload_n C 1 dJ0_init_81219_1 rfl rfl ?_
  refine tw_null C dJ0_init_81219_2 ?_
  refine tw_callI C (tGo_same C) (As := [.ref b, .null]) (tc_J0_init_db425 _ _ _ _ _ a ha b v n cap f hb hf hn hc) mt_J0_init_db425 rfl im_J0_init_db425 wd1272 rfl ⟨(Nat.le_of_ble_eq_true rfl), (Nat.le_of_ble_eq_true rfl)⟩ ⟨Nat.le_refl _, Nat.le_refl _⟩ (rfl) (Nat.le_of_ble_eq_true rfl) dJ0_init_81219_3 ?_
  rintro _ M2 ⟨rfl, hp⟩
  show TO X A _ _ 1 4000 _ _ []
  exact tw_vret C ⟨rfl, hp⟩ rfl ⟨Nat.le_refl _, Nat.le_refl _⟩ dJ0_init_81219_6
theorem tc_J4_toString_0e30d (l : Launch) (E : xE) (A : Nat → Prop) (ss : tSs) (M : tMp) (b v n cap : Nat) (f : Nat → Int32) (hb : sB E M b v n cap f) (hf : bF f) (hn : n ≤ cap) (hc : cap ≤ 4000) : tMet l E yJ4_toString_0e30d cJ4_toString_0e30d 1 (some (.object "java/lang/String")) { frames := 5, cells := 2, slots := 4004, locals := 225 } [.ref b] A ss M (fun r M2 => ∃ a v2 f2, r = some (.ref a) ∧ M2 a = some (.inr (11, [.ref v2, iV 0, .int 0, .int 0])) ∧ M2 v2 = some (.inl (E.2.1.1 2, n, .inl f2)) ∧ bF f2 ∧ (∀ k, k < n → f2 k = f k) ∧ ∀ w e, M w = some e → M2 w = some e ∧ w ≠ a ∧ w ≠ v2) := by
  refine tMet.of (by decide) (Nat.le_of_ble_eq_true rfl) fun X hE hl hnm C => ?_
  subst hE
  refine tw_new C cls_J0 (fs := [.null, .int 0, .int 0, .int 0]) (fun j hj => by rcases (show j = 0 ∨ j = 1 ∨ j = 2 ∨ j = 3 by omega) with rfl | rfl | rfl | rfl <;> rfl) wd1267 wd1268 wd67 dJ4_toString_0e30d_0 (show 0 + 1 ≤ 2 by omega) (show 0 + 4 ≤ 4004 by omega) (fun a ha => ?_)
  refine tw_dup C dJ4_toString_0e30d_3 rfl ?_
  refine tw_aload_n C 0 dJ4_toString_0e30d_4 rfl rfl ?_
  refine tw_callI C (tGo_same C) (As := [.ref b]) (tc_J0_init_81219 _ _ _ _ _ a tU_eq b v n cap f ⟨(tU_ne (ha _ _ hb.1)).trans hb.1, (tU_ne (ha _ _ hb.2)).trans hb.2⟩ hf hn hc) mt_J0_init_81219 rfl im_J0_init_81219 wd1269 rfl ⟨(Nat.le_of_ble_eq_true rfl), (Nat.le_of_ble_eq_true rfl)⟩ (by show 0 + 1 + 1 ≤ 2 ∧ 0 + 4 + 4000 ≤ 4004; omega) (rfl) (Nat.le_of_ble_eq_true rfl) dJ4_toString_0e30d_5 ?_
  rintro _ M2 ⟨rfl, v2, f2, k1, k2, k3, k4, k5⟩
  show TO X A _ _ (0 + 1 + 1) (0 + 4 + 4000) _ _ (.ref a :: [])
  exact tw_aret C ⟨a, v2, f2, rfl, k1, k2, k3, k4, fun u e h => ⟨(k5 u e (ha u e h) (by rw [tU_ne (ha u e h)]; exact h)).1, ha u e h, (k5 u e (ha u e h) (by rw [tU_ne (ha u e h)]; exact h)).2⟩⟩ rfl (Or.inl ⟨_, rfl⟩) (by show 0 + 1 + 1 ≤ 2 ∧ 0 + 4 + 4000 ≤ 4004; omega) dJ4_toString_0e30d_8
theorem tc_J0_isLatin1_aae02 (l : Launch) (E : xE) (A : Nat → Prop) (ss : tSs) (M : tMp) (a w m : Nat) (g : Nat → Int32) (hS : .inl (a, w, m, g) ∈ ss) : tMet l E yJ0_isLatin1_aae02 cJ0_isLatin1_aae02 1 (some .boolean) { frames := 0, cells := 0, slots := 0, locals := 0 } [.ref a] A ss M (fun r M2 => r = some (iV 1) ∧ M2 = M) := by
  refine tMet.of (by decide) (Nat.le_of_ble_eq_true rfl) fun X hE hl hnm C => ?_
  subst hE
  have hs : Str a w m g A (xXs X) (xXs X).heap := C.2.2.2.2.2.2.2.2.2.2.2.2.2.2.2 _ hS
  refine tw_gstat C C.2.2.2.2.2.2.2.2.2.2.2.1 wd877 rfl dJ0_isLatin1_aae02_0 ?_
  refine tw_if_eq C 17 (x' := 1) (zI_eq (by decide) (by decide)) dJ0_isLatin1_aae02_3 rfl (fun hc => absurd hc (by decide)) (fun _ => ?_)
  refine tw_aload_n C 0 dJ0_isLatin1_aae02_6 rfl rfl ?_
  refine tw_gets C (v := iV 0) hs.2.1 wd1310 rfl dJ0_isLatin1_aae02_7 ?_
  refine tw_if_ne C 17 (x' := 0) (zI_eq (by decide) (by decide)) dJ0_isLatin1_aae02_10 rfl (fun hc => absurd rfl hc) (fun _ => ?_)
  refine tw_iconst C (1) dJ0_isLatin1_aae02_13 rfl ?_
  refine tw_goto C 18 dJ0_isLatin1_aae02_14 rfl ?_
  exact tw_zret C ⟨rfl, rfl⟩ rfl rfl ⟨Nat.zero_le _, Nat.zero_le _⟩ dJ0_isLatin1_aae02_18
