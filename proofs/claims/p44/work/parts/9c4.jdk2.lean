/-! texts: length, coder, bytes of a String; a StringBuilder's room -/
theorem tc_J5_ensureCapacityInternal_d00df (l : Launch) (E : xE) (A : Nat → Prop) (ss : tSs) (M : tMp) (b v n cap : Nat) (f : Nat → Int32) (hb : sB E M b v n cap f) (hf : bF f) (hc : cap ≤ 4000) (q : Nat) (hq : q ≤ 1900) : tMet l E yJ5_ensureCapacityInternal_d00df cJ5_ensureCapacityInternal_d00df 3 none { frames := 3, cells := 1, slots := 4000, locals := 135 } [.ref b, iV (q : Int)] A ss M (fun r M2 => r = none ∧ ∃ v2 cap2 f2, sB E M2 b v2 n cap2 f2 ∧ q ≤ cap2 ∧ cap ≤ cap2 ∧ cap2 ≤ 4000 ∧ bF f2 ∧ (∀ k, k < cap → f2 k = f k) ∧ (∀ w e, w ≠ b → M w = some e → M2 w = some e) ∧ (∀ w e, M w = some e → w ≠ v → w ≠ v2)) := by
  refine tMet.of (by decide) (Nat.le_of_ble_eq_true rfl) fun X hE hl hnm C => ?_
  subst hE
  refine tw_aload_n C 0 dJ5_ensureCapacityInternal_d00df_0 rfl rfl ?_
  refine tw_get C 0 cls_J4 hb.1 (by decide) wd1115 rfl rfl dJ5_ensureCapacityInternal_d00df_1 ?_
  refine tw_len C hb.2 (cap : Int) (ofN _) dJ5_ensureCapacityInternal_d00df_4 ?_
  refine tw_aload_n C 0 dJ5_ensureCapacityInternal_d00df_5 rfl rfl ?_
  refine tw_get C 1 cls_J4 hb.1 (by decide) wd1116 rfl rfl dJ5_ensureCapacityInternal_d00df_6 ?_
  refine tw_ishr C dJ5_ensureCapacityInternal_d00df_9 ?_
  refine tw_istore_n C dJ5_ensureCapacityInternal_d00df_10 rfl (by decide) rfl ?_
  refine tw_iload_n C 2 dJ5_ensureCapacityInternal_d00df_11 rfl rfl ?_
  refine tw_iload_n C 0 dJ5_ensureCapacityInternal_d00df_12 rfl rfl ?_
  refine tw_isub C dJ5_ensureCapacityInternal_d00df_13 ?_
  refine tw_if_le C 38 (x' := (q : Int) - cap) (by rw [zs0, zN cap (by omega)]; exact zI_eq (by omega) (by omega)) dJ5_ensureCapacityInternal_d00df_14 rfl (fun hle => ?_) (fun hgt => ?_)
  · exact tw_vret C ⟨rfl, v, cap, f, hb, by omega, Nat.le_refl _, hc, hf, fun _ _ => rfl, fun _ _ _ h => h, fun _ _ _ h => h⟩ rfl ⟨Nat.zero_le _, Nat.zero_le _⟩ dJ5_ensureCapacityInternal_d00df_38
  refine tw_aload_n C 1 dJ5_ensureCapacityInternal_d00df_17 rfl rfl ?_
  refine tw_aload_n C 1 dJ5_ensureCapacityInternal_d00df_18 rfl rfl ?_
  refine tw_get C 0 cls_J4 hb.1 (by decide) wd1115 rfl rfl dJ5_ensureCapacityInternal_d00df_19 ?_
  refine tw_aload_n C 1 dJ5_ensureCapacityInternal_d00df_22 rfl rfl ?_
  refine tw_iload_n C 2 dJ5_ensureCapacityInternal_d00df_23 rfl rfl ?_
  refine tw_callU C (tGo_same C) (x := yJ5_newCapacity_0f7a4) (As := [iV (q : Int)]) (tc_J5_newCapacity_0f7a4 _ _ _ _ _ b v n cap f hb q (by omega) (by omega)) mt_J5_newCapacity_0f7a4 im_J5_newCapacity_0f7a4 (C.2.2.2.2.2.2.2.2.2.2.2.2.2.2.1.1.1 _ (List.mem_of_getElem? (i := 1) rfl)) wd1144 sm_J5_newCapacity_0f7a4 im_J5_newCapacity_0f7a4 mt_J5_newCapacity_0f7a4.1 mt_J5_newCapacity_0f7a4.2.2 (tRc_M C cls_J4 hb.1) rfl ⟨(Nat.le_of_ble_eq_true rfl), (Nat.le_of_ble_eq_true rfl)⟩ ⟨Nat.zero_le _, Nat.zero_le _⟩ (rfl) (Nat.le_of_ble_eq_true rfl) dJ5_ensureCapacityInternal_d00df_24 ?_
  rintro _ _ ⟨rfl, rfl⟩
  show TO X A _ _ 0 0 _ _ (iV _ :: .ref v :: .ref b :: [])
  refine tw_aload_n C 1 dJ5_ensureCapacityInternal_d00df_27 rfl rfl ?_
  refine tw_get C 1 cls_J4 hb.1 (by decide) wd1116 rfl rfl dJ5_ensureCapacityInternal_d00df_28 ?_
  refine tw_ishl C dJ5_ensureCapacityInternal_d00df_31 ?_
  refine tw_callS C (tGo_same C) (As := [.ref v, iV ((max q (2 * cap + 2) : Nat) : Int)]) (tc_J7_copyOf_9075b _ _ _ _ _ v cap (max q (2 * cap + 2)) f hb.2 hf (by omega) (by omega)) mt_J7_copyOf_9075b st_J7_copyOf_9075b wd1157 rfl ⟨(Nat.le_of_ble_eq_true rfl), (Nat.le_of_ble_eq_true rfl)⟩ ⟨Nat.le_refl _, Nat.le_refl _⟩ (by simp only [List.reverse_cons, List.reverse_nil, List.nil_append, List.cons_append]; rw [zl0, zN _ (by omega)]) (Nat.le_of_ble_eq_true rfl) dJ5_ensureCapacityInternal_d00df_32 ?_
  rintro _ _ ⟨a, ha, rfl, rfl⟩
  show TO X A _ _ 1 4000 _ _ (.ref a :: .ref b :: [])
  have hb1 := (tU_ne (M := _) (e := .inl ((xXE X).2.1.1 2, max q (2 * cap + 2), .inl (va_cpy f (fun _ => 0) 0 0 cap))) (ha _ _ hb.1)).trans hb.1
  refine tw_put C 0 cls_J4 hb1 (by decide) wd1115 rfl rfl rfl rfl (Nat.le_of_ble_eq_true rfl) dJ5_ensureCapacityInternal_d00df_35 ?_
  refine tw_vret C ⟨rfl, a, max q (2 * cap + 2), va_cpy f (fun _ => 0) 0 0 cap, ⟨tU_eq, (tU_ne (ha _ _ hb.1).symm).trans tU_eq⟩, by omega, by omega, by omega, bF_cpy hf bF_0, fun k hk => ?_, fun w e hw h => ?_, fun w e h _ => ha w e h⟩ rfl ⟨Nat.le_refl _, Nat.le_refl _⟩ dJ5_ensureCapacityInternal_d00df_38
  · unfold va_cpy
    rw [if_pos (by omega), Nat.sub_zero, Nat.zero_add]
  · rw [tU_ne hw, tU_ne (ha w e h)]
    exact h
theorem tc_J0_coder_7d493 (l : Launch) (E : xE) (A : Nat → Prop) (ss : tSs) (M : tMp) (a w m : Nat) (g : Nat → Int32) (hS : .inl (a, w, m, g) ∈ ss) : tMet l E yJ0_coder_7d493 cJ0_coder_7d493 1 (some .byte) { frames := 0, cells := 0, slots := 0, locals := 0 } [.ref a] A ss M (fun r M2 => r = some (iV 0) ∧ M2 = M) := by
  refine tMet.of (by decide) (Nat.le_of_ble_eq_true rfl) fun X hE hl hnm C => ?_
  subst hE
  have hs : Str a w m g A (xXs X) (xXs X).heap := C.2.2.2.2.2.2.2.2.2.2.2.2.2.2.2 _ hS
  refine tw_gstat C C.2.2.2.2.2.2.2.2.2.2.2.1 wd877 rfl dJ0_coder_7d493_0 ?_
  refine tw_if_eq C 13 (x' := 1) (zI_eq (by decide) (by decide)) dJ0_coder_7d493_3 rfl (fun hc => absurd hc (by decide)) (fun _ => ?_)
  refine tw_aload_n C 0 dJ0_coder_7d493_6 rfl rfl ?_
  refine tw_gets C (v := iV 0) hs.2.1 wd1310 rfl dJ0_coder_7d493_7 ?_
  refine tw_goto C 14 dJ0_coder_7d493_10 rfl ?_
  exact tw_zret C ⟨rfl, rfl⟩ rfl rfl ⟨Nat.zero_le _, Nat.zero_le _⟩ dJ0_coder_7d493_14
theorem tc_J0_length_8abf5 (l : Launch) (E : xE) (A : Nat → Prop) (ss : tSs) (M : tMp) (a w m : Nat) (g : Nat → Int32) (hS : .inl (a, w, m, g) ∈ ss) : tMet l E yJ0_length_8abf5 cJ0_length_8abf5 1 (some .int) { frames := 1, cells := 0, slots := 0, locals := 45 } [.ref a] A ss M (fun r M2 => r = some (iV (m : Int)) ∧ M2 = M) := by
  refine tMet.of (by decide) (Nat.le_of_ble_eq_true rfl) fun X hE hl hnm C => ?_
  subst hE
  have hs : Str a w m g A (xXs X) (xXs X).heap := C.2.2.2.2.2.2.2.2.2.2.2.2.2.2.2 _ hS
  refine tw_aload_n C 0 dJ0_length_8abf5_0 rfl rfl ?_
  refine tw_gets C hs.2.2.1 wd1309 rfl dJ0_length_8abf5_1 ?_
  refine tw_lenT C hs.2.2.2 (m : Int) (ofN _) dJ0_length_8abf5_4 ?_
  refine tw_aload_n C 0 dJ0_length_8abf5_5 rfl rfl ?_
  refine tw_callV C (tGo_same C) (As := []) (tc_J0_coder_7d493 _ _ _ _ _ a w m g hS) mt_J0_coder_7d493 vr_J0_coder_7d493 wd873 (tRc_S C hs) rfl ⟨(Nat.le_of_ble_eq_true rfl), (Nat.le_of_ble_eq_true rfl)⟩ ⟨Nat.zero_le _, Nat.zero_le _⟩ (rfl) (Nat.le_of_ble_eq_true rfl) dJ0_length_8abf5_6 ?_
  rintro _ M9 ⟨rfl, h9⟩
  obtain rfl : M = M9 := h9.symm
  show TO X A _ _ 0 0 _ _ (iV _ :: iV _ :: [])
  refine tw_ishr C dJ0_length_8abf5_9 ?_
  exact tw_iret C ⟨by rw [zs0, iVz], rfl⟩ rfl ⟨Nat.zero_le _, Nat.zero_le _⟩ dJ0_length_8abf5_10
theorem tc_J5_isLatin1_aae02 (l : Launch) (E : xE) (A : Nat → Prop) (ss : tSs) (M : tMp) (b v n cap : Nat) (f : Nat → Int32) (hb : sB E M b v n cap f) : tMet l E yJ5_isLatin1_aae02 cJ5_isLatin1_aae02 1 (some .boolean) { frames := 0, cells := 0, slots := 0, locals := 0 } [.ref b] A ss M (fun r M2 => r = some (iV 1) ∧ M2 = M) := by
  refine tMet.of (by decide) (Nat.le_of_ble_eq_true rfl) fun X hE hl hnm C => ?_
  subst hE
  refine tw_gstat C C.2.2.2.2.2.2.2.2.2.2.2.1 wd1107 rfl dJ5_isLatin1_aae02_0 ?_
  refine tw_if_eq C 17 (x' := 1) (zI_eq (by decide) (by decide)) dJ5_isLatin1_aae02_3 rfl (fun hc => absurd hc (by decide)) (fun _ => ?_)
  refine tw_aload_n C 0 dJ5_isLatin1_aae02_6 rfl rfl ?_
  refine tw_get C 1 cls_J4 hb.1 (by decide) wd1116 rfl rfl dJ5_isLatin1_aae02_7 ?_
  refine tw_if_ne C 17 (x' := 0) (zI_eq (by decide) (by decide)) dJ5_isLatin1_aae02_10 rfl (fun hc => absurd rfl hc) (fun _ => ?_)
  refine tw_iconst C (1) dJ5_isLatin1_aae02_13 rfl ?_
  refine tw_goto C 18 dJ5_isLatin1_aae02_14 rfl ?_
  exact tw_zret C ⟨rfl, rfl⟩ rfl rfl ⟨Nat.zero_le _, Nat.zero_le _⟩ dJ5_isLatin1_aae02_18
theorem tc_J5_inflateIfNeededFor_a7421 (l : Launch) (E : xE) (A : Nat → Prop) (ss : tSs) (M : tMp) (b v n cap : Nat) (f : Nat → Int32) (hb : sB E M b v n cap f) (a w m : Nat) (g : Nat → Int32) (hS : .inl (a, w, m, g) ∈ ss) : tMet l E yJ5_inflateIfNeededFor_a7421 cJ5_inflateIfNeededFor_a7421 2 none { frames := 1, cells := 0, slots := 0, locals := 45 } [.ref b, .ref a] A ss M (fun r M2 => r = none ∧ M2 = M) := by
  refine tMet.of (by decide) (Nat.le_of_ble_eq_true rfl) fun X hE hl hnm C => ?_
  subst hE
  have hs : Str a w m g A (xXs X) (xXs X).heap := C.2.2.2.2.2.2.2.2.2.2.2.2.2.2.2 _ hS
  refine tw_gstat C C.2.2.2.2.2.2.2.2.2.2.2.1 wd1107 rfl dJ5_inflateIfNeededFor_a7421_0 ?_
  refine tw_if_eq C 21 (x' := 1) (zI_eq (by decide) (by decide)) dJ5_inflateIfNeededFor_a7421_3 rfl (fun hc => absurd hc (by decide)) (fun _ => ?_)
  refine tw_aload_n C 0 dJ5_inflateIfNeededFor_a7421_6 rfl rfl ?_
  refine tw_get C 1 cls_J4 hb.1 (by decide) wd1116 rfl rfl dJ5_inflateIfNeededFor_a7421_7 ?_
  refine tw_aload_n C 1 dJ5_inflateIfNeededFor_a7421_10 rfl rfl ?_
  refine tw_callV C (tGo_same C) (As := []) (tc_J0_coder_7d493 _ _ _ _ _ a w m g hS) mt_J0_coder_7d493 vr_J0_coder_7d493 wd1198 (tRc_S C hs) rfl ⟨(Nat.le_of_ble_eq_true rfl), (Nat.le_of_ble_eq_true rfl)⟩ ⟨Nat.zero_le _, Nat.zero_le _⟩ (rfl) (Nat.le_of_ble_eq_true rfl) dJ5_inflateIfNeededFor_a7421_11 ?_
  rintro _ M9 ⟨rfl, h9⟩
  obtain rfl : M = M9 := h9.symm
  show TO X A _ _ 0 0 _ _ (iV _ :: iV _ :: [])
  refine tw_icmp_eq C 21 (x' := 0) (y' := 0) (zI_eq (by decide) (by decide)) (zI_eq (by decide) (by decide)) dJ5_inflateIfNeededFor_a7421_14 rfl (fun _ => ?_) (fun hc => absurd rfl hc)
  exact tw_vret C ⟨rfl, rfl⟩ rfl ⟨Nat.zero_le _, Nat.zero_le _⟩ dJ5_inflateIfNeededFor_a7421_21
theorem tc_J0_getBytes_840e7 (l : Launch) (E : xE) (A : Nat → Prop) (ss : tSs) (M : tMp) (a w m : Nat) (g : Nat → Int32) (hS : .inl (a, w, m, g) ∈ ss) (d cap p : Nat) (f : Nat → Int32) (hd : M d = some (.inl (E.2.1.1 2, cap, .inl f))) (hg : bF g) (hp : p + m ≤ cap) (hc : cap < 100000) : tMet l E yJ0_getBytes_840e7 cJ0_getBytes_840e7 4 none { frames := 1, cells := 0, slots := 0, locals := 45 } [.ref a, .ref d, iV (p : Int), iV 0] A ss M (fun r M2 => r = none ∧ M2 = tU M d (.inl (E.2.1.1 2, cap, .inl (va_cpy g f 0 p m)))) := by
  refine tMet.of (by decide) (Nat.le_of_ble_eq_true rfl) fun X hE hl hnm C => ?_
  subst hE
  have hs : Str a w m g A (xXs X) (xXs X).heap := C.2.2.2.2.2.2.2.2.2.2.2.2.2.2.2 _ hS
  refine tw_aload_n C 0 dJ0_getBytes_840e7_0 rfl rfl ?_
  refine tw_callV C (tGo_same C) (As := []) (tc_J0_coder_7d493 _ _ _ _ _ a w m g hS) mt_J0_coder_7d493 vr_J0_coder_7d493 wd873 (tRc_S C hs) rfl ⟨(Nat.le_of_ble_eq_true rfl), (Nat.le_of_ble_eq_true rfl)⟩ ⟨Nat.zero_le _, Nat.zero_le _⟩ (rfl) (Nat.le_of_ble_eq_true rfl) dJ0_getBytes_840e7_1 ?_
  rintro _ M9 ⟨rfl, h9⟩
  obtain rfl : M = M9 := h9.symm
  show TO X A _ _ 0 0 _ _ (iV _ :: [])
  refine tw_iload_n C 3 dJ0_getBytes_840e7_4 rfl rfl ?_
  refine tw_icmp_ne C 28 (x' := 0) (y' := 0) (zI_eq (by decide) (by decide)) (zI_eq (by decide) (by decide)) dJ0_getBytes_840e7_5 rfl (fun hc => absurd rfl hc) (fun _ => ?_)
  refine tw_aload_n C 0 dJ0_getBytes_840e7_8 rfl rfl ?_
  refine tw_gets C hs.2.2.1 wd1309 rfl dJ0_getBytes_840e7_9 ?_
  refine tw_iconst C (0) dJ0_getBytes_840e7_12 rfl ?_
  refine tw_aload_n C 1 dJ0_getBytes_840e7_13 rfl rfl ?_
  refine tw_iload_n C 2 dJ0_getBytes_840e7_14 rfl rfl ?_
  refine tw_iload_n C 3 dJ0_getBytes_840e7_15 rfl rfl ?_
  refine tw_ishl C dJ0_getBytes_840e7_16 ?_
  refine tw_aload_n C 0 dJ0_getBytes_840e7_17 rfl rfl ?_
  refine tw_gets C hs.2.2.1 wd1309 rfl dJ0_getBytes_840e7_18 ?_
  refine tw_lenT C hs.2.2.2 (m : Int) (ofN _) dJ0_getBytes_840e7_21 ?_
  refine tw_copyT C hs.2.2.2 hd (sp' := 0) (dp' := p) (n' := m) (zI_eq (by decide) (by decide)) (by rw [zl0, zI_nI]; exact zN p (by omega)) (zN m (by omega)) (by omega) (by omega) (fun i _ => hg _) wd1222 wd723 wd722 wd62 (Nat.le_of_ble_eq_true rfl) (Nat.le_of_ble_eq_true rfl) dJ0_getBytes_840e7_22 ?_
  refine tw_goto C 43 dJ0_getBytes_840e7_25 rfl ?_
  exact tw_vret C ⟨rfl, rfl⟩ rfl ⟨Nat.zero_le _, Nat.zero_le _⟩ dJ0_getBytes_840e7_43
theorem tc_J5_putStringAt_47b60 (l : Launch) (E : xE) (A : Nat → Prop) (ss : tSs) (M : tMp) (b v n cap : Nat) (f : Nat → Int32) (hb : sB E M b v n cap f) (a w m : Nat) (g : Nat → Int32) (hS : .inl (a, w, m, g) ∈ ss) (p : Nat) (hg : bF g) (hp : p + m ≤ cap) (hc : cap < 100000) : tMet l E yJ5_putStringAt_47b60 cJ5_putStringAt_47b60 3 none { frames := 2, cells := 0, slots := 0, locals := 90 } [.ref b, iV (p : Int), .ref a] A ss M (fun r M2 => r = none ∧ M2 = tU M v (.inl (E.2.1.1 2, cap, .inl (va_cpy g f 0 p m)))) := by
  refine tMet.of (by decide) (Nat.le_of_ble_eq_true rfl) fun X hE hl hnm C => ?_
  subst hE
  have hs : Str a w m g A (xXs X) (xXs X).heap := C.2.2.2.2.2.2.2.2.2.2.2.2.2.2.2 _ hS
  refine tw_aload_n C 0 dJ5_putStringAt_47b60_0 rfl rfl ?_
  refine tw_aload_n C 2 dJ5_putStringAt_47b60_1 rfl rfl ?_
  refine tw_callU C (tGo_same C) (x := yJ5_inflateIfNeededFor_a7421) (As := [.ref a]) (tc_J5_inflateIfNeededFor_a7421 _ _ _ _ _ b v n cap f hb a w m g hS) mt_J5_inflateIfNeededFor_a7421 im_J5_inflateIfNeededFor_a7421 (C.2.2.2.2.2.2.2.2.2.2.2.2.2.2.1.1.1 _ (List.mem_of_getElem? (i := 3) rfl)) wd1194 sm_J5_inflateIfNeededFor_a7421 im_J5_inflateIfNeededFor_a7421 mt_J5_inflateIfNeededFor_a7421.1 mt_J5_inflateIfNeededFor_a7421.2.2 (tRc_M C cls_J4 hb.1) rfl ⟨(Nat.le_of_ble_eq_true rfl), (Nat.le_of_ble_eq_true rfl)⟩ ⟨Nat.zero_le _, Nat.zero_le _⟩ (rfl) (Nat.le_of_ble_eq_true rfl) dJ5_putStringAt_47b60_2 ?_
  rintro _ M9 ⟨rfl, h9⟩
  obtain rfl : M = M9 := h9.symm
  show TO X A _ _ 0 0 _ _ []
  refine tw_aload_n C 2 dJ5_putStringAt_47b60_5 rfl rfl ?_
  refine tw_aload_n C 0 dJ5_putStringAt_47b60_6 rfl rfl ?_
  refine tw_get C 0 cls_J4 hb.1 (by decide) wd1115 rfl rfl dJ5_putStringAt_47b60_7 ?_
  refine tw_iload_n C 1 dJ5_putStringAt_47b60_10 rfl rfl ?_
  refine tw_aload_n C 0 dJ5_putStringAt_47b60_11 rfl rfl ?_
  refine tw_get C 1 cls_J4 hb.1 (by decide) wd1116 rfl rfl dJ5_putStringAt_47b60_12 ?_
  refine tw_callV C (tGo_same C) (As := [.ref v, iV (p : Int), iV 0]) (tc_J0_getBytes_840e7 _ _ _ _ _ a w m g hS v cap p f hb.2 hg hp hc) mt_J0_getBytes_840e7 vr_J0_getBytes_840e7 wd1218 (tRc_S C hs) rfl ⟨(Nat.le_of_ble_eq_true rfl), (Nat.le_of_ble_eq_true rfl)⟩ ⟨Nat.zero_le _, Nat.zero_le _⟩ (rfl) (Nat.le_of_ble_eq_true rfl) dJ5_putStringAt_47b60_15 ?_
  rintro _ _ ⟨rfl, rfl⟩
  show TO X A _ _ 0 0 _ _ []
  exact tw_vret C ⟨rfl, rfl⟩ rfl ⟨Nat.zero_le _, Nat.zero_le _⟩ dJ5_putStringAt_47b60_18
theorem sB_ne {E : xE} {M : tMp} {b v n cap : Nat} {f : Nat → Int32} (h : sB E M b v n cap f) : b ≠ v := fun c => by
  have h1 := h.1
  rw [c, h.2] at h1
  cases h1
theorem tc_J5_append_cf1ce (l : Launch) (E : xE) (A : Nat → Prop) (ss : tSs) (M : tMp) (b v n cap : Nat) (f : Nat → Int32) (hb : sB E M b v n cap f) (a w m : Nat) (g : Nat → Int32) (hS : .inl (a, w, m, g) ∈ ss) (hf : bF f) (hg : bF g) (hc : cap ≤ 4000) (hn : n ≤ cap) (hm : n + m ≤ 1900) : tMet l E yJ5_append_cf1ce cJ5_append_cf1ce 3 (some (.object "java/lang/AbstractStringBuilder")) { frames := 4, cells := 1, slots := 4000, locals := 180 } [.ref b, .ref a] A ss M (fun r M2 => r = some (.ref b) ∧ ∃ v2 cap2 f2, sB E M2 b v2 (n + m) cap2 f2 ∧ n + m ≤ cap2 ∧ cap2 ≤ 4000 ∧ bF f2 ∧ (∀ k, k < n → f2 k = f k) ∧ (∀ k, k < m → f2 (n + k) = g k) ∧ ∀ w e, w ≠ b → w ≠ v → M w = some e → M2 w = some e ∧ w ≠ v2) := by
  refine tMet.of (by decide) (Nat.le_of_ble_eq_true rfl) fun X hE hl hnm C => ?_
  subst hE
  have hs : Str a w m g A (xXs X) (xXs X).heap := C.2.2.2.2.2.2.2.2.2.2.2.2.2.2.2 _ hS
  refine tw_aload_n C 1 dJ5_append_cf1ce_0 rfl rfl ?_
  refine tw_ifnonnullR C 9 dJ5_append_cf1ce_1 rfl ?_
  refine tw_aload_n C 1 dJ5_append_cf1ce_9 rfl rfl ?_
  refine tw_callV C (tGo_same C) (As := []) (tc_J0_length_8abf5 _ _ _ _ _ a w m g hS) mt_J0_length_8abf5 vr_J0_length_8abf5 wd1189 (tRc_S C hs) rfl ⟨(Nat.le_of_ble_eq_true rfl), (Nat.le_of_ble_eq_true rfl)⟩ ⟨Nat.zero_le _, Nat.zero_le _⟩ (rfl) (Nat.le_of_ble_eq_true rfl) dJ5_append_cf1ce_10 ?_
  rintro _ M9 ⟨rfl, h9⟩
  obtain rfl : M = M9 := h9.symm
  show TO X A _ _ 0 0 _ _ (iV _ :: [])
  refine tw_istore_n C dJ5_append_cf1ce_13 rfl (by decide) rfl ?_
  refine tw_aload_n C 1 dJ5_append_cf1ce_14 rfl rfl ?_
  refine tw_aload_n C 1 dJ5_append_cf1ce_15 rfl rfl ?_
  refine tw_get C 3 cls_J4 hb.1 (by decide) wd1118 rfl rfl dJ5_append_cf1ce_16 ?_
  refine tw_iload_n C 0 dJ5_append_cf1ce_19 rfl rfl ?_
  refine tw_iadd C dJ5_append_cf1ce_20 ?_
  refine tw_callU C (tGo_same C) (x := yJ5_ensureCapacityInternal_d00df) (As := [iV ((n + m : Nat) : Int)]) (tc_J5_ensureCapacityInternal_d00df _ _ _ _ _ b v n cap f hb hf hc (n + m) hm) mt_J5_ensureCapacityInternal_d00df im_J5_ensureCapacityInternal_d00df (C.2.2.2.2.2.2.2.2.2.2.2.2.2.2.1.1.1 _ (List.mem_of_getElem? (i := 0) rfl)) wd1140 sm_J5_ensureCapacityInternal_d00df im_J5_ensureCapacityInternal_d00df mt_J5_ensureCapacityInternal_d00df.1 mt_J5_ensureCapacityInternal_d00df.2.2 (tRc_M C cls_J4 hb.1) rfl ⟨(Nat.le_of_ble_eq_true rfl), (Nat.le_of_ble_eq_true rfl)⟩ ⟨Nat.le_refl _, Nat.le_refl _⟩ (rfl) (Nat.le_of_ble_eq_true rfl) dJ5_append_cf1ce_21 ?_
  rintro _ M2 ⟨rfl, v2, cap2, f2, hb2, g1, g2, g3, g4, g5, g6, g7⟩
  show TO X A _ _ 1 4000 _ _ []
  refine tw_aload_n C 1 dJ5_append_cf1ce_24 rfl rfl ?_
  refine tw_aload_n C 1 dJ5_append_cf1ce_25 rfl rfl ?_
  refine tw_get C 3 cls_J4 hb2.1 (by decide) wd1118 rfl rfl dJ5_append_cf1ce_26 ?_
  refine tw_aload_n C 2 dJ5_append_cf1ce_29 rfl rfl ?_
  refine tw_callU C (tGo_same C) (x := yJ5_putStringAt_47b60) (As := [iV (n : Int), .ref a]) (tc_J5_putStringAt_47b60 _ _ _ _ _ b v2 n cap2 f2 hb2 a w m g hS n hg (by omega) (by omega)) mt_J5_putStringAt_47b60 im_J5_putStringAt_47b60 (C.2.2.2.2.2.2.2.2.2.2.2.2.2.2.1.1.1 _ (List.mem_of_getElem? (i := 2) rfl)) wd1190 sm_J5_putStringAt_47b60 im_J5_putStringAt_47b60 mt_J5_putStringAt_47b60.1 mt_J5_putStringAt_47b60.2.2 (tRc_M C cls_J4 hb2.1) rfl ⟨(Nat.le_of_ble_eq_true rfl), (Nat.le_of_ble_eq_true rfl)⟩ ⟨Nat.le_refl _, Nat.le_refl _⟩ (rfl) (Nat.le_of_ble_eq_true rfl) dJ5_append_cf1ce_30 ?_
  rintro _ _ ⟨rfl, rfl⟩
  show TO X A _ _ 1 4000 _ _ []
  have hb3 := (tU_ne (M := M2) (e := .inl ((xXE X).2.1.1 2, cap2, .inl (va_cpy g f2 0 n m))) (sB_ne hb2)).trans hb2.1
  refine tw_aload_n C 1 dJ5_append_cf1ce_33 rfl rfl ?_
  refine tw_dup C dJ5_append_cf1ce_34 rfl ?_
  refine tw_get C 3 cls_J4 hb3 (by decide) wd1118 rfl rfl dJ5_append_cf1ce_35 ?_
  refine tw_iload_n C 0 dJ5_append_cf1ce_38 rfl rfl ?_
  refine tw_iadd C dJ5_append_cf1ce_39 ?_
  refine tw_put C 3 cls_J4 hb3 (by decide) wd1118 rfl rfl rfl rfl (Nat.le_of_ble_eq_true rfl) dJ5_append_cf1ce_40 ?_
  refine tw_aload_n C 1 dJ5_append_cf1ce_43 rfl rfl ?_
  refine tw_aret C ⟨rfl, v2, cap2, va_cpy g f2 0 n m, ⟨tU_eq, (tU_ne (sB_ne hb2).symm).trans tU_eq⟩, g1, g3, bF_cpy hg g4, fun k hk => ?_, fun k hk => ?_, fun w e h1 h2 h => ⟨?_, g7 w e h h2⟩⟩ rfl (Or.inl ⟨_, rfl⟩) ⟨Nat.le_refl _, Nat.le_refl _⟩ dJ5_append_cf1ce_44
  · unfold va_cpy
    rw [if_neg (by omega)]
    exact g5 k (by omega)
  · unfold va_cpy
    rw [if_pos (by omega), Nat.zero_add, Nat.add_sub_cancel_left]
  · rw [tU_ne h1, tU_ne (g7 w e h h2)]
    exact g6 w e h1 h
