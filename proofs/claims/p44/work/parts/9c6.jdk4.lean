/-! append of an int, constructors, toString -/
theorem tc_J5_append_c97b9 (l : Launch) (E : xE) (A : Nat → Prop) (ss : tSs) (M : tMp) (b v n cap : Nat) (f : Nat → Int32) (hb : sB E M b v n cap f) (hf : bF f) (hc : cap ≤ 4000) (hn : n ≤ cap) (x : Nat) (hx : x < 10000) (hm : n + dn x ≤ 1900) : tMet l E yJ5_append_c97b9 cJ5_append_c97b9 4 (some (.object "java/lang/AbstractStringBuilder")) { frames := 4, cells := 1, slots := 4000, locals := 180 } [.ref b, iV (x : Int)] A ss M (fun r M2 => r = some (.ref b) ∧ ∃ v2 cap2 f2, sB E M2 b v2 (n + dn x) cap2 f2 ∧ n + dn x ≤ cap2 ∧ cap2 ≤ 4000 ∧ bF f2 ∧ (∀ k, k < n → f2 k = f k) ∧ (∀ k, k < dn x → f2 (n + k) = (dec x).getD k 0) ∧ ∀ w e, w ≠ b → w ≠ v → M w = some e → M2 w = some e ∧ w ≠ v2) := by
  refine tMet.of (by decide) (Nat.le_of_ble_eq_true rfl) fun X hE hl hnm C => ?_
  subst hE
  refine tw_aload_n C 0 dJ5_append_c97b9_0 rfl rfl ?_
  refine tw_get C 3 cls_J4 hb.1 (by decide) wd1118 rfl rfl dJ5_append_c97b9_1 ?_
  refine tw_istore_n C dJ5_append_c97b9_4 rfl (by decide) rfl ?_
  refine tw_iload_n C 0 dJ5_append_c97b9_5 rfl rfl ?_
  refine tw_iload_n C 2 dJ5_append_c97b9_6 rfl rfl ?_
  refine tw_callS C (tGo_same C) (As := [iV (x : Int)]) (tc_J6_stringSize_0f7a4 _ _ _ _ _ x hx) mt_J6_stringSize_0f7a4 st_J6_stringSize_0f7a4 wd1231 rfl ⟨(Nat.le_of_ble_eq_true rfl), (Nat.le_of_ble_eq_true rfl)⟩ ⟨Nat.zero_le _, Nat.zero_le _⟩ (rfl) (Nat.le_of_ble_eq_true rfl) dJ5_append_c97b9_7 ?_
  rintro _ M9 ⟨rfl, h9⟩
  obtain rfl : M = M9 := h9.symm
  show TO X A _ _ 0 0 _ _ (iV (dn x : Int) :: iV (n : Int) :: [])
  refine tw_iadd C dJ5_append_c97b9_10 ?_
  refine tw_istore_n C dJ5_append_c97b9_11 rfl (by decide) rfl ?_
  refine tw_aload_n C 2 dJ5_append_c97b9_12 rfl rfl ?_
  refine tw_iload_n C 0 dJ5_append_c97b9_13 rfl rfl ?_
  refine tw_callU C (tGo_same C) (x := yJ5_ensureCapacityInternal_d00df) (As := [iV ((n + dn x : Nat) : Int)]) (tc_J5_ensureCapacityInternal_d00df _ _ _ _ _ b v n cap f hb hf hc (n + dn x) hm) mt_J5_ensureCapacityInternal_d00df im_J5_ensureCapacityInternal_d00df (C.2.2.2.2.2.2.2.2.2.2.2.2.2.2.1.1.1 _ (List.mem_of_getElem? (i := 0) rfl)) wd1140 sm_J5_ensureCapacityInternal_d00df im_J5_ensureCapacityInternal_d00df mt_J5_ensureCapacityInternal_d00df.1 mt_J5_ensureCapacityInternal_d00df.2.2 (tRc_M C cls_J4 hb.1) rfl ⟨(Nat.le_of_ble_eq_true rfl), (Nat.le_of_ble_eq_true rfl)⟩ ⟨Nat.le_refl _, Nat.le_refl _⟩ (rfl) (Nat.le_of_ble_eq_true rfl) dJ5_append_c97b9_14 ?_
  rintro _ M2 ⟨rfl, v2, cap2, f2, hb2, g1, g2, g3, g4, g5, g6, g7⟩
  show TO X A _ _ 1 4000 _ _ []
  refine tw_aload_n C 2 dJ5_append_c97b9_17 rfl rfl ?_
  refine tw_callU C (tGo_same C) (x := yJ5_isLatin1_aae02) (As := []) (tc_J5_isLatin1_aae02 _ _ _ _ _ b v2 n cap2 f2 hb2) mt_J5_isLatin1_aae02 im_J5_isLatin1_aae02 (va_Nw.of rfl (C.2.2.2.2.1 _ sl_J5_isLatin1_aae02)) wd1169 sm_J5_isLatin1_aae02 im_J5_isLatin1_aae02 mt_J5_isLatin1_aae02.1 mt_J5_isLatin1_aae02.2.2 (tRc_M C cls_J4 hb2.1) rfl ⟨(Nat.le_of_ble_eq_true rfl), (Nat.le_of_ble_eq_true rfl)⟩ ⟨Nat.le_refl _, Nat.le_refl _⟩ (rfl) (Nat.le_of_ble_eq_true rfl) dJ5_append_c97b9_18 ?_
  rintro _ M9 ⟨rfl, h9⟩
  obtain rfl : M2 = M9 := h9.symm
  show TO X A _ _ 1 4000 _ _ (iV 1 :: [])
  refine tw_if_eq C 37 (x' := 1) (zI_eq (by decide) (by decide)) dJ5_append_c97b9_21 rfl (fun hc => absurd hc (by decide)) (fun _ => ?_)
  refine tw_iload_n C 3 dJ5_append_c97b9_24 rfl rfl ?_
  refine tw_iload_n C 0 dJ5_append_c97b9_25 rfl rfl ?_
  refine tw_aload_n C 2 dJ5_append_c97b9_26 rfl rfl ?_
  refine tw_get C 0 cls_J4 hb2.1 (by decide) wd1115 rfl rfl dJ5_append_c97b9_27 ?_
  refine tw_callS C (tGo_same C) (As := [iV (x : Int), iV ((n + dn x : Nat) : Int), .ref v2]) (tc_J6_getChars_ba4f3 _ _ _ _ _ x (n + dn x) v2 cap2 f2 hb2.2 hx (by omega) g1 (by omega) g4) mt_J6_getChars_ba4f3 st_J6_getChars_ba4f3 wd1234 rfl ⟨(Nat.le_of_ble_eq_true rfl), (Nat.le_of_ble_eq_true rfl)⟩ ⟨Nat.le_refl _, Nat.le_refl _⟩ (rfl) (Nat.le_of_ble_eq_true rfl) dJ5_append_c97b9_30 ?_
  rintro _ _ ⟨y, f3, rfl, rfl, k1, k2, k3⟩
  show TO X A _ _ 1 4000 _ _ (iV y :: [])
  have hb3 := (tU_ne (M := M2) (e := .inl ((xXE X).2.1.1 2, cap2, .inl f3)) (sB_ne hb2)).trans hb2.1
  refine tw_pop C dJ5_append_c97b9_33 rfl ?_
  refine tw_goto C 48 dJ5_append_c97b9_34 rfl ?_
  refine tw_aload_n C 2 dJ5_append_c97b9_48 rfl rfl ?_
  refine tw_iload_n C 0 dJ5_append_c97b9_49 rfl rfl ?_
  refine tw_put C 3 cls_J4 hb3 (by decide) wd1118 rfl rfl rfl rfl (Nat.le_of_ble_eq_true rfl) dJ5_append_c97b9_50 ?_
  refine tw_aload_n C 2 dJ5_append_c97b9_53 rfl rfl ?_
  refine tw_aret C ⟨rfl, v2, cap2, f3, ⟨tU_eq, (tU_ne (sB_ne hb2).symm).trans tU_eq⟩, g1, g3, k1, fun k hk => ?_, fun k hk => ?_, fun w e h1 h2 h => ⟨?_, g7 w e h h2⟩⟩ rfl (Or.inl ⟨_, rfl⟩) ⟨Nat.le_refl _, Nat.le_refl _⟩ dJ5_append_c97b9_54
  · exact (k2 k (by omega)).trans (g5 k (by omega))
  · have := k3 k hk
    rw [Nat.add_sub_cancel] at this
    exact this
  · rw [tU_ne h1, tU_ne (g7 w e h h2)]
    exact g6 w e h1 h
theorem tc_J4_append_bf812 (l : Launch) (E : xE) (A : Nat → Prop) (ss : tSs) (M : tMp) (b v n cap : Nat) (f : Nat → Int32) (hb : sB E M b v n cap f) (hf : bF f) (hc : cap ≤ 4000) (hn : n ≤ cap) (x : Nat) (hx : x < 10000) (hm : n + dn x ≤ 1900) : tMet l E yJ4_append_bf812 cJ4_append_bf812 2 (some (.object "java/lang/StringBuilder")) { frames := 5, cells := 1, slots := 4000, locals := 225 } [.ref b, iV (x : Int)] A ss M (fun r M2 => r = some (.ref b) ∧ ∃ v2 cap2 f2, sB E M2 b v2 (n + dn x) cap2 f2 ∧ n + dn x ≤ cap2 ∧ cap2 ≤ 4000 ∧ bF f2 ∧ (∀ k, k < n → f2 k = f k) ∧ (∀ k, k < dn x → f2 (n + k) = (dec x).getD k 0) ∧ ∀ w e, w ≠ b → w ≠ v → M w = some e → M2 w = some e ∧ w ≠ v2) := by
  refine tMet.of (by decide) (Nat.le_of_ble_eq_true rfl) fun X hE hl hnm C => ?_
  subst hE
  refine tw_aload_n C 0 dJ4_append_bf812_0 rfl rfl ?_
  refine tw_iload_n C 1 dJ4_append_bf812_1 rfl rfl ?_
  refine tw_callSU C (tGo_same C) (As := [iV (x : Int)]) (tc_J5_append_c97b9 _ _ _ _ _ b v n cap f hb hf hc hn x hx hm) mt_J5_append_c97b9 im_J5_append_c97b9 wd1228 sm_J5_append_c97b9 su_J4 (by decide) (tRc_M C cls_J4 hb.1) rfl ⟨(Nat.le_of_ble_eq_true rfl), (Nat.le_of_ble_eq_true rfl)⟩ ⟨Nat.le_refl _, Nat.le_refl _⟩ (rfl) (Nat.le_of_ble_eq_true rfl) dJ4_append_bf812_2 ?_
  rintro _ M2 ⟨rfl, hp⟩
  show TO X A _ _ 1 4000 _ _ (.ref b :: [])
  refine tw_pop C dJ4_append_bf812_5 rfl ?_
  refine tw_aload_n C 0 dJ4_append_bf812_6 rfl rfl ?_
  exact tw_aret C ⟨rfl, hp⟩ rfl (Or.inl ⟨_, rfl⟩) ⟨Nat.le_refl _, Nat.le_refl _⟩ dJ4_append_bf812_7
theorem tc_J4_append_15ec4 (l : Launch) (E : xE) (A : Nat → Prop) (ss : tSs) (M : tMp) (b v n cap : Nat) (f : Nat → Int32) (hb : sB E M b v n cap f) (a w m : Nat) (g : Nat → Int32) (hS : .inl (a, w, m, g) ∈ ss) (hf : bF f) (hg : bF g) (hc : cap ≤ 4000) (hn : n ≤ cap) (hm : n + m ≤ 1900) : tMet l E yJ4_append_15ec4 cJ4_append_15ec4 2 (some (.object "java/lang/StringBuilder")) { frames := 5, cells := 1, slots := 4000, locals := 225 } [.ref b, .ref a] A ss M (fun r M2 => r = some (.ref b) ∧ ∃ v2 cap2 f2, sB E M2 b v2 (n + m) cap2 f2 ∧ n + m ≤ cap2 ∧ cap2 ≤ 4000 ∧ bF f2 ∧ (∀ k, k < n → f2 k = f k) ∧ (∀ k, k < m → f2 (n + k) = g k) ∧ ∀ w e, w ≠ b → w ≠ v → M w = some e → M2 w = some e ∧ w ≠ v2) := by
  refine tMet.of (by decide) (Nat.le_of_ble_eq_true rfl) fun X hE hl hnm C => ?_
  subst hE
  refine tw_aload_n C 0 dJ4_append_15ec4_0 rfl rfl ?_
  refine tw_aload_n C 1 dJ4_append_15ec4_1 rfl rfl ?_
  refine tw_callSU C (tGo_same C) (As := [.ref a]) (tc_J5_append_cf1ce _ _ _ _ _ b v n cap f hb a w m g hS hf hg hc hn hm) mt_J5_append_cf1ce im_J5_append_cf1ce wd1133 sm_J5_append_cf1ce su_J4 (by decide) (tRc_M C cls_J4 hb.1) rfl ⟨(Nat.le_of_ble_eq_true rfl), (Nat.le_of_ble_eq_true rfl)⟩ ⟨Nat.le_refl _, Nat.le_refl _⟩ (rfl) (Nat.le_of_ble_eq_true rfl) dJ4_append_15ec4_2 ?_
  rintro _ M2 ⟨rfl, hp⟩
  show TO X A _ _ 1 4000 _ _ (.ref b :: [])
  refine tw_pop C dJ4_append_15ec4_5 rfl ?_
  refine tw_aload_n C 0 dJ4_append_15ec4_6 rfl rfl ?_
  exact tw_aret C ⟨rfl, hp⟩ rfl (Or.inl ⟨_, rfl⟩) ⟨Nat.le_refl _, Nat.le_refl _⟩ dJ4_append_15ec4_7
theorem tc_J4_append_cf1ce (l : Launch) (E : xE) (A : Nat → Prop) (ss : tSs) (M : tMp) (b v n cap : Nat) (f : Nat → Int32) (hb : sB E M b v n cap f) (a w m : Nat) (g : Nat → Int32) (hS : .inl (a, w, m, g) ∈ ss) (hf : bF f) (hg : bF g) (hc : cap ≤ 4000) (hn : n ≤ cap) (hm : n + m ≤ 1900) : tMet l E yJ4_append_cf1ce cJ4_append_cf1ce 2 (some (.object "java/lang/AbstractStringBuilder")) { frames := 6, cells := 1, slots := 4000, locals := 270 } [.ref b, .ref a] A ss M (fun r M2 => r = some (.ref b) ∧ ∃ v2 cap2 f2, sB E M2 b v2 (n + m) cap2 f2 ∧ n + m ≤ cap2 ∧ cap2 ≤ 4000 ∧ bF f2 ∧ (∀ k, k < n → f2 k = f k) ∧ (∀ k, k < m → f2 (n + k) = g k) ∧ ∀ w e, w ≠ b → w ≠ v → M w = some e → M2 w = some e ∧ w ≠ v2) := by
  refine tMet.of (by decide) (Nat.le_of_ble_eq_true rfl) fun X hE hl hnm C => ?_
  subst hE
  refine tw_aload_n C 0 dJ4_append_cf1ce_0 rfl rfl ?_
  refine tw_aload_n C 1 dJ4_append_cf1ce_1 rfl rfl ?_
  refine tw_callV C (tGo_same C) (As := [.ref a]) (tc_J4_append_15ec4 _ _ _ _ _ b v n cap f hb a w m g hS hf hg hc hn hm) mt_J4_append_15ec4 vr_J4_append_15ec4 wd1332 (tRc_M C cls_J4 hb.1) rfl ⟨(Nat.le_of_ble_eq_true rfl), (Nat.le_of_ble_eq_true rfl)⟩ ⟨Nat.le_refl _, Nat.le_refl _⟩ (rfl) (Nat.le_of_ble_eq_true rfl) dJ4_append_cf1ce_2 ?_
  rintro _ M2 ⟨rfl, hp⟩
  show TO X A _ _ 1 4000 _ _ (.ref b :: [])
  exact tw_aret C ⟨rfl, hp⟩ rfl (Or.inl ⟨_, rfl⟩) ⟨Nat.le_refl _, Nat.le_refl _⟩ dJ4_append_cf1ce_5
theorem tc_J5_init_d00df (l : Launch) (E : xE) (A : Nat → Prop) (ss : tSs) (M : tMp) (b : Nat) (hb : M b = some (.inr (12, [.null, .int 0, .int 0, .int 0]))) : tMet l E yJ5_init_d00df cJ5_init_d00df 2 none { frames := 1, cells := 1, slots := 16, locals := 45 } [.ref b, iV 16] A ss M (fun r M2 => r = none ∧ ∃ v2 cap2 f2, sB E M2 b v2 0 cap2 f2 ∧ 0 ≤ cap2 ∧ cap2 ≤ 4000 ∧ bF f2 ∧ ∀ w e, w ≠ b → M w = some e → M2 w = some e ∧ w ≠ v2) := by
  refine tMet.of (by decide) (Nat.le_of_ble_eq_true rfl) fun X hE hl hnm C => ?_
  subst hE
  refine tw_aload_n C 0 dJ5_init_d00df_0 rfl rfl ?_
  refine tw_objI C wd1106 (Nat.le_of_ble_eq_true rfl) (Nat.le_of_ble_eq_true rfl) (Nat.le_of_ble_eq_true rfl) dJ5_init_d00df_1 ?_
  refine tw_gstat C C.2.2.2.2.2.2.2.2.2.2.2.1 wd1107 rfl dJ5_init_d00df_4 ?_
  refine tw_if_eq C 25 (x' := 1) (zI_eq (by decide) (by decide)) dJ5_init_d00df_7 rfl (fun hc => absurd hc (by decide)) (fun _ => ?_)
  refine tw_aload_n C 0 dJ5_init_d00df_10 rfl rfl ?_
  refine tw_iload_n C 1 dJ5_init_d00df_11 rfl rfl ?_
  refine tw_newB C wdAB (n := 16) rfl (by omega) dJ5_init_d00df_12 (Nat.le_refl _) (Nat.le_refl _) (fun a ha => ?_)
  have hb1 := (tU_ne (M := M) (e := .inl ((xXE X).2.1.1 2, 16, .inl (fun _ => 0))) (ha _ _ hb)).trans hb
  refine tw_put C 0 cls_J4 hb1 (by decide) wd1115 rfl rfl rfl rfl (Nat.le_of_ble_eq_true rfl) dJ5_init_d00df_14 ?_
  refine tw_aload_n C 0 dJ5_init_d00df_17 rfl rfl ?_
  refine tw_iconst C (0) dJ5_init_d00df_18 rfl ?_
  refine tw_put C 1 cls_J4 tU_eq (by decide) wd1116 rfl rfl rfl rfl (Nat.le_of_ble_eq_true rfl) dJ5_init_d00df_19 ?_
  refine tw_goto C 38 dJ5_init_d00df_22 rfl ?_
  refine tw_vret C ⟨rfl, a, 16, fun _ => 0, ⟨tU_eq, ?_⟩, by decide, by decide, bF_0, fun w e h1 h => ⟨?_, ha w e h⟩⟩ rfl ⟨Nat.le_refl _, Nat.le_refl _⟩ dJ5_init_d00df_38
  · rw [tU_ne (ha _ _ hb).symm, tU_ne (ha _ _ hb).symm]
    exact tU_eq
  · rw [tU_ne h1, tU_ne h1, tU_ne (ha w e h)]
    exact h
theorem tc_J4_init_da8c8 (l : Launch) (E : xE) (A : Nat → Prop) (ss : tSs) (M : tMp) (b : Nat) (hb : M b = some (.inr (12, [.null, .int 0, .int 0, .int 0]))) : tMet l E yJ4_init_da8c8 cJ4_init_da8c8 1 none { frames := 2, cells := 1, slots := 16, locals := 90 } [.ref b] A ss M (fun r M2 => r = none ∧ ∃ v2 cap2 f2, sB E M2 b v2 0 cap2 f2 ∧ 0 ≤ cap2 ∧ cap2 ≤ 4000 ∧ bF f2 ∧ ∀ w e, w ≠ b → M w = some e → M2 w = some e ∧ w ≠ v2) := by
  refine tMet.of (by decide) (Nat.le_of_ble_eq_true rfl) fun X hE hl hnm C => ?_
  subst hE
  refine tw_aload_n C 0 dJ4_init_da8c8_0 rfl rfl ?_
  refine tw_bipush C (16) dJ4_init_da8c8_1 rfl ?_
  refine tw_callI C (tGo_same C) (As := [iV 16]) (tc_J5_init_d00df _ _ _ _ _ b hb) mt_J5_init_d00df rfl im_J5_init_d00df wd1103 rfl ⟨(Nat.le_of_ble_eq_true rfl), (Nat.le_of_ble_eq_true rfl)⟩ ⟨Nat.le_refl _, Nat.le_refl _⟩ (rfl) (Nat.le_of_ble_eq_true rfl) dJ4_init_da8c8_3 ?_
  rintro _ M2 ⟨rfl, hp⟩
  show TO X A _ _ 1 16 _ _ []
  exact tw_vret C ⟨rfl, hp⟩ rfl ⟨Nat.le_refl _, Nat.le_refl _⟩ dJ4_init_da8c8_6
theorem tc_J5_init_a7421 (l : Launch) (E : xE) (A : Nat → Prop) (ss : tSs) (M : tMp) (b : Nat) (hb : M b = some (.inr (12, [.null, .int 0, .int 0, .int 0]))) (a w m : Nat) (g : Nat → Int32) (hS : .inl (a, w, m, g) ∈ ss) (hg : bF g) (hm : m ≤ 380) : tMet l E yJ5_init_a7421 cJ5_init_a7421 5 none { frames := 7, cells := 2, slots := 4400, locals := 315 } [.ref b, .ref a] A ss M (fun r M2 => r = none ∧ ∃ v2 cap2 f2, sB E M2 b v2 m cap2 f2 ∧ m ≤ cap2 ∧ cap2 ≤ 4000 ∧ bF f2 ∧ (∀ k, k < m → f2 k = g k) ∧ ∀ w e, w ≠ b → M w = some e → M2 w = some e ∧ w ≠ v2) := by
  refine tMet.of (by decide) (Nat.le_of_ble_eq_true rfl) fun X hE hl hnm C => ?_
  subst hE
  have hs : Str a w m g A (xXs X) (xXs X).heap := C.2.2.2.2.2.2.2.2.2.2.2.2.2.2.2 _ hS
  refine tw_aload_n C 0 dJ5_init_a7421_0 rfl rfl ?_
  refine tw_objI C wd1106 (Nat.le_of_ble_eq_true rfl) (Nat.le_of_ble_eq_true rfl) (Nat.le_of_ble_eq_true rfl) dJ5_init_a7421_1 ?_
  refine tw_aload_n C 1 dJ5_init_a7421_4 rfl rfl ?_
  refine tw_callV C (tGo_same C) (As := []) (tc_J0_length_8abf5 _ _ _ _ _ a w m g hS) mt_J0_length_8abf5 vr_J0_length_8abf5 wd1189 (tRc_S C hs) rfl ⟨(Nat.le_of_ble_eq_true rfl), (Nat.le_of_ble_eq_true rfl)⟩ ⟨Nat.zero_le _, Nat.zero_le _⟩ (rfl) (Nat.le_of_ble_eq_true rfl) dJ5_init_a7421_5 ?_
  rintro _ M9 ⟨rfl, h9⟩
  obtain rfl : M = M9 := h9.symm
  show TO X A _ _ 0 0 _ _ (iV _ :: [])
  refine tw_istore_n C dJ5_init_a7421_8 rfl (by decide) rfl ?_
  refine tw_iload_n C 0 dJ5_init_a7421_9 rfl rfl ?_
  refine tw_ldc C (2147483631) wd1328 rfl dJ5_init_a7421_10 ?_
  refine tw_icmp_ge C 22 (x' := (m : Int)) (y' := 2147483631) (zN m (by omega)) (zI_eq (by decide) (by decide)) dJ5_init_a7421_12 rfl (fun hc => absurd hc (by omega)) (fun _ => ?_)
  refine tw_iload_n C 0 dJ5_init_a7421_15 rfl rfl ?_
  refine tw_bipush C (16) dJ5_init_a7421_16 rfl ?_
  refine tw_iadd C dJ5_init_a7421_18 ?_
  refine tw_goto C 24 dJ5_init_a7421_19 rfl ?_
  refine tw_istore_n C dJ5_init_a7421_24 rfl (by decide) rfl ?_
  refine tw_aload_n C 3 dJ5_init_a7421_25 rfl rfl ?_
  refine tw_callV C (tGo_same C) (As := []) (tc_J0_coder_7d493 _ _ _ _ _ a w m g hS) mt_J0_coder_7d493 vr_J0_coder_7d493 wd1198 (tRc_S C hs) rfl ⟨(Nat.le_of_ble_eq_true rfl), (Nat.le_of_ble_eq_true rfl)⟩ ⟨Nat.zero_le _, Nat.zero_le _⟩ (rfl) (Nat.le_of_ble_eq_true rfl) dJ5_init_a7421_26 ?_
  rintro _ M9 ⟨rfl, h9⟩
  obtain rfl : M = M9 := h9.symm
  show TO X A _ _ 0 0 _ _ (iV 0 :: [])
  refine tw_istore C dJ5_init_a7421_29 (by decide) rfl ?_
  refine tw_aload_n C 3 dJ5_init_a7421_31 rfl rfl ?_
  refine tw_iload C 0 dJ5_init_a7421_32 rfl ?_
  refine tw_put C 1 cls_J4 hb (by decide) wd1116 rfl rfl rfl rfl (Nat.le_of_ble_eq_true rfl) dJ5_init_a7421_34 ?_
  refine tw_aload_n C 3 dJ5_init_a7421_37 rfl rfl ?_
  refine tw_iload C 0 dJ5_init_a7421_38 rfl ?_
  refine tw_if_ne C 49 (x' := 0) (zI_eq (by decide) (by decide)) dJ5_init_a7421_40 rfl (fun hc => absurd rfl hc) (fun _ => ?_)
  refine tw_iload_n C 1 dJ5_init_a7421_43 rfl rfl ?_
  refine tw_newB C wdAB (n := m + 16) (ofN (m + 16)).symm (by omega) dJ5_init_a7421_44 (show 0 + 1 ≤ 2 by omega) (by show 0 + (m + 16) ≤ 4400; omega) (fun q hq => ?_)
  have hb1 := (tU_ne (M := tU M b (.inr (12, List.set [.null, .int 0, .int 0, .int 0] 1 (iV 0)))) (e := .inl ((xXE X).2.1.1 2, m + 16, .inl (fun _ => 0))) (hq b _ tU_eq)).trans tU_eq
  refine tw_goto C 53 dJ5_init_a7421_46 rfl ?_
  refine tw_put C 0 cls_J4 hb1 (by decide) wd1115 rfl rfl rfl rfl (Nat.le_of_ble_eq_true rfl) dJ5_init_a7421_53 ?_
  refine tw_aload_n C 3 dJ5_init_a7421_56 rfl rfl ?_
  refine tw_aload_n C 4 dJ5_init_a7421_57 rfl rfl ?_
  refine tw_callU C (tGo_same C) (x := yJ5_append_cf1ce) (As := [.ref a]) (tc_J4_append_cf1ce _ _ _ _ _ b q 0 (m + 16) (fun _ => 0) ⟨tU_eq, (tU_ne (hq b _ tU_eq).symm).trans tU_eq⟩ a w m g hS bF_0 hg (by omega) (by omega) (by omega)) mt_J4_append_cf1ce im_J4_append_cf1ce (va_Nw.of rfl (C.2.2.2.2.1 _ sl_J5_append_cf1ce)) wd1329 sm_J5_append_cf1ce im_J5_append_cf1ce mt_J5_append_cf1ce.1 mt_J5_append_cf1ce.2.2 (tRc_M C cls_J4 tU_eq) rfl ⟨(Nat.le_of_ble_eq_true rfl), (Nat.le_of_ble_eq_true rfl)⟩ (by show 0 + 1 + 1 ≤ 2 ∧ 0 + (m + 16) + 4000 ≤ 4400; omega) rfl (Nat.le_of_ble_eq_true rfl) dJ5_init_a7421_58 ?_
  rintro _ M2 ⟨rfl, v2, cap2, f2, k1, k2, k3, k4, k5, k6, k7⟩
  show TO X A _ _ (0 + 1 + 1) (0 + (m + 16) + 4000) _ _ (.ref b :: [])
  refine tw_pop C dJ5_init_a7421_61 rfl ?_
  refine tw_vret C ⟨rfl, v2, cap2, f2, by rw [Nat.zero_add] at k1; exact k1, by omega, k3, k4, fun k hk => by have := k6 k hk; rw [Nat.zero_add] at this; exact this, fun u e h1 h => ?_⟩ rfl (by show 0 + 1 + 1 ≤ 2 ∧ 0 + (m + 16) + 4000 ≤ 4400; omega) dJ5_init_a7421_62
  have hu : u ≠ q := hq u e (by rw [tU_ne h1]; exact h)
  exact k7 u e h1 hu (by rw [tU_ne h1, tU_ne hu, tU_ne h1]; exact h)
theorem tc_J4_init_a7421 (l : Launch) (E : xE) (A : Nat → Prop) (ss : tSs) (M : tMp) (b : Nat) (hb : M b = some (.inr (12, [.null, .int 0, .int 0, .int 0]))) (a w m : Nat) (g : Nat → Int32) (hS : .inl (a, w, m, g) ∈ ss) (hg : bF g) (hm : m ≤ 380) : tMet l E yJ4_init_a7421 cJ4_init_a7421 2 none { frames := 8, cells := 2, slots := 4400, locals := 360 } [.ref b, .ref a] A ss M (fun r M2 => r = none ∧ ∃ v2 cap2 f2, sB E M2 b v2 m cap2 f2 ∧ m ≤ cap2 ∧ cap2 ≤ 4000 ∧ bF f2 ∧ (∀ k, k < m → f2 k = g k) ∧ ∀ w e, w ≠ b → M w = some e → M2 w = some e ∧ w ≠ v2) := by
  refine tMet.of (by decide) (Nat.le_of_ble_eq_true rfl) fun X hE hl hnm C => ?_
  subst hE
  refine tw_aload_n C 0 dJ4_init_a7421_0 rfl rfl ?_
  refine tw_aload_n C 1 dJ4_init_a7421_1 rfl rfl ?_
  refine tw_callI C (tGo_same C) (As := [.ref a]) (tc_J5_init_a7421 _ _ _ _ _ b hb a w m g hS hg hm) mt_J5_init_a7421 rfl im_J5_init_a7421 wd1325 rfl ⟨(Nat.le_of_ble_eq_true rfl), (Nat.le_of_ble_eq_true rfl)⟩ ⟨Nat.le_refl _, Nat.le_refl _⟩ (rfl) (Nat.le_of_ble_eq_true rfl) dJ4_init_a7421_2 ?_
  rintro _ M2 ⟨rfl, hp⟩
  show TO X A _ _ 2 4400 _ _ []
  exact tw_vret C ⟨rfl, hp⟩ rfl ⟨Nat.le_refl _, Nat.le_refl _⟩ dJ4_init_a7421_5
