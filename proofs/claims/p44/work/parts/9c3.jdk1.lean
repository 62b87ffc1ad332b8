/-! growth of a StringBuilder's bytes -/
theorem tc_J8_newLength_cabcc (l : Launch) (E : xE) (A : Nat → Prop) (ss : tSs) (M : tMp) (p q r : Nat) (h0 : 0 < q) (h1 : p < 100000) (h2 : q < 100000) (h3 : r < 100000) : tMet l E yJ8_newLength_cabcc cJ8_newLength_cabcc 4 (some .int) { frames := 1, cells := 0, slots := 0, locals := 45 } [iV (p : Int), iV (q : Int), iV (r : Int)] A ss M (fun v M2 => v = some (iV ((p + max q r : Nat) : Int)) ∧ M2 = M) := by
  refine tMet.of (by decide) (Nat.le_of_ble_eq_true rfl) fun X hE hl hnm C => ?_
  subst hE
  have hmx : (p : Int) + zmax q r = ((p + max q r : Nat) : Int) := by
    unfold zmax
    rw [zN q (by omega), zN r (by omega)]
    split <;> omega
  refine tw_iload_n C 0 dJ8_newLength_cabcc_0 rfl rfl ?_
  refine tw_iload_n C 1 dJ8_newLength_cabcc_1 rfl rfl ?_
  refine tw_iload_n C 2 dJ8_newLength_cabcc_2 rfl rfl ?_
  refine tw_mmax C wd1151 wd715 wd58 wd716 (Nat.le_of_ble_eq_true rfl) (Nat.le_of_ble_eq_true rfl) ⟨Nat.zero_le _, Nat.zero_le _⟩ dJ8_newLength_cabcc_3 ?_
  refine tw_iadd C dJ8_newLength_cabcc_6 ?_
  refine tw_istore_n C dJ8_newLength_cabcc_7 rfl (by decide) rfl ?_
  refine tw_iconst C (0) dJ8_newLength_cabcc_8 rfl ?_
  refine tw_iload_n C 0 dJ8_newLength_cabcc_9 rfl rfl ?_
  refine tw_icmp_ge C 21 (x' := 0) (y' := ((p + max q r : Nat) : Int)) (zI_eq (by decide) (by decide)) (by rw [hmx]; exact zN _ (by omega)) dJ8_newLength_cabcc_10 rfl (fun hc => absurd hc (by omega)) (fun _ => ?_)
  refine tw_iload_n C 0 dJ8_newLength_cabcc_13 rfl rfl ?_
  refine tw_ldc C (2147483639) wd1152 rfl dJ8_newLength_cabcc_14 ?_
  refine tw_icmp_gt C 21 (x' := ((p + max q r : Nat) : Int)) (by rw [hmx]; exact zN _ (by omega)) (zI_eq (by decide) (by decide)) dJ8_newLength_cabcc_16 rfl (fun hc => absurd hc (by omega)) (fun _ => ?_)
  refine tw_iload_n C 0 dJ8_newLength_cabcc_19 rfl rfl ?_
  exact tw_iret C ⟨by rw [hmx], rfl⟩ rfl ⟨Nat.zero_le _, Nat.zero_le _⟩ dJ8_newLength_cabcc_20
theorem tc_J5_newCapacity_0f7a4 (l : Launch) (E : xE) (A : Nat → Prop) (ss : tSs) (M : tMp) (b v n cap : Nat) (f : Nat → Int32) (hb : sB E M b v n cap f) (q : Nat) (hq : cap < q) (hq2 : q < 10000) : tMet l E yJ5_newCapacity_0f7a4 cJ5_newCapacity_0f7a4 6 (some .int) { frames := 2, cells := 0, slots := 0, locals := 90 } [.ref b, iV (q : Int)] A ss M (fun v M2 => v = some (iV ((max q (2 * cap + 2) : Nat) : Int)) ∧ M2 = M) := by
  refine tMet.of (by decide) (Nat.le_of_ble_eq_true rfl) fun X hE hl hnm C => ?_
  subst hE
  refine tw_aload_n C 0 dJ5_newCapacity_0f7a4_0 rfl rfl ?_
  refine tw_get C 0 cls_J4 hb.1 (by decide) wd1115 rfl rfl dJ5_newCapacity_0f7a4_1 ?_
  refine tw_len C hb.2 (cap : Int) (ofN _) dJ5_newCapacity_0f7a4_4 ?_
  refine tw_istore_n C dJ5_newCapacity_0f7a4_5 rfl (by decide) rfl ?_
  refine tw_iload_n C 2 dJ5_newCapacity_0f7a4_6 rfl rfl ?_
  refine tw_aload_n C 1 dJ5_newCapacity_0f7a4_7 rfl rfl ?_
  refine tw_get C 1 cls_J4 hb.1 (by decide) wd1116 rfl rfl dJ5_newCapacity_0f7a4_8 ?_
  refine tw_ishl C dJ5_newCapacity_0f7a4_11 ?_
  refine tw_istore_n C dJ5_newCapacity_0f7a4_12 rfl (by decide) rfl ?_
  refine tw_iload_n C 0 dJ5_newCapacity_0f7a4_13 rfl rfl ?_
  refine tw_iload_n C 1 dJ5_newCapacity_0f7a4_14 rfl rfl ?_
  refine tw_isub C dJ5_newCapacity_0f7a4_15 ?_
  refine tw_istore C dJ5_newCapacity_0f7a4_16 (by decide) rfl ?_
  refine tw_iload_n C 2 dJ5_newCapacity_0f7a4_18 rfl rfl ?_
  refine tw_iload C 0 dJ5_newCapacity_0f7a4_19 rfl ?_
  refine tw_iload_n C 2 dJ5_newCapacity_0f7a4_21 rfl rfl ?_
  refine tw_iconst C (2) dJ5_newCapacity_0f7a4_22 rfl ?_
  refine tw_aload_n C 3 dJ5_newCapacity_0f7a4_23 rfl rfl ?_
  refine tw_get C 1 cls_J4 hb.1 (by decide) wd1116 rfl rfl dJ5_newCapacity_0f7a4_24 ?_
  refine tw_ishl C dJ5_newCapacity_0f7a4_27 ?_
  refine tw_iadd C dJ5_newCapacity_0f7a4_28 ?_
  refine tw_callS C (tGo_same C) (As := [iV (cap : Int), iV ((q - cap : Nat) : Int), iV ((cap + 2 : Nat) : Int)]) (tc_J8_newLength_cabcc _ _ _ _ _ cap (q - cap) (cap + 2) (by omega) (by omega) (by omega) (by omega)) mt_J8_newLength_cabcc st_J8_newLength_cabcc wd1148 rfl ⟨Nat.le_of_ble_eq_true rfl, Nat.le_of_ble_eq_true rfl⟩ ⟨Nat.zero_le _, Nat.zero_le _⟩ (by simp only [List.reverse_cons, List.reverse_nil, List.nil_append, List.cons_append]; rw [show zshl (q : Int) 0 - (cap : Int) = ((q - cap : Nat) : Int) by rw [zl0, zN q (by omega)]; omega, show (cap : Int) + zshl 2 0 = ((cap + 2 : Nat) : Int) by rw [zl0, show zI 2 = 2 from zI_eq (by decide) (by decide)]; omega]) (Nat.zero_le _) dJ5_newCapacity_0f7a4_29 ?_
  rintro _ _ ⟨rfl, rfl⟩
  show TO X A _ _ 0 0 _ _ (iV _ :: [])
  refine tw_istore C dJ5_newCapacity_0f7a4_32 (by decide) rfl ?_
  refine tw_iload C 0 dJ5_newCapacity_0f7a4_34 rfl ?_
  refine tw_ldc C (2147483647) wd1156 rfl dJ5_newCapacity_0f7a4_36 ?_
  refine tw_icmp_ne C 51 (x' := ((cap + max (q - cap) (cap + 2) : Nat) : Int)) (y' := 2147483647) (zN _ (by omega)) (zI_eq (by decide) (by decide)) dJ5_newCapacity_0f7a4_38 rfl (fun _ => ?_) (fun hc => absurd hc (by omega))
  refine tw_iload C 0 dJ5_newCapacity_0f7a4_51 rfl ?_
  refine tw_aload_n C 4 dJ5_newCapacity_0f7a4_53 rfl rfl ?_
  refine tw_get C 1 cls_J4 hb.1 (by decide) wd1116 rfl rfl dJ5_newCapacity_0f7a4_54 ?_
  refine tw_ishr C dJ5_newCapacity_0f7a4_57 ?_
  exact tw_iret C ⟨by rw [zs0, zN _ (by omega)]; congr 2; omega, rfl⟩ rfl ⟨Nat.zero_le _, Nat.zero_le _⟩ dJ5_newCapacity_0f7a4_58
theorem tc_J7_copyOf_9075b (l : Launch) (E : xE) (A : Nat → Prop) (ss : tSs) (M : tMp) (w cap q : Nat) (f : Nat → Int32) (hw : M w = some (.inl (E.2.1.1 2, cap, .inl f))) (hf : bF f) (hq : cap < q) (hq2 : q ≤ 4000) : tMet l E yJ7_copyOf_9075b cJ7_copyOf_9075b 3 (some (.array .byte)) { frames := 1, cells := 1, slots := 4000, locals := 45 } [.ref w, iV (q : Int)] A ss M (fun v M2 => ∃ a, (∀ b e, M b = some e → b ≠ a) ∧ v = some (.ref a) ∧ M2 = tU M a (.inl (E.2.1.1 2, q, .inl (va_cpy f (fun _ => 0) 0 0 cap)))) := by
  refine tMet.of (by decide) (Nat.le_of_ble_eq_true rfl) fun X hE hl hnm C => ?_
  subst hE
  refine tw_iload_n C 1 dJ7_copyOf_9075b_0 rfl rfl ?_
  refine tw_aload_n C 0 dJ7_copyOf_9075b_1 rfl rfl ?_
  refine tw_len C hw (cap : Int) (ofN _) dJ7_copyOf_9075b_2 ?_
  refine tw_icmp_ne C 14 (zN q (by omega)) (zN cap (by omega)) dJ7_copyOf_9075b_3 rfl (fun _ => ?_) (fun hc => absurd hc (by omega))
  refine tw_iload_n C 1 dJ7_copyOf_9075b_14 rfl rfl ?_
  refine tw_newB C wdAB (n := q) (ofN q).symm (by omega) dJ7_copyOf_9075b_15 (Nat.le_refl _) (by show 0 + q ≤ 4000; omega) (fun a ha => ?_)
  have hw1 := (tU_ne (M := M) (e := .inl ((xXE X).2.1.1 2, q, .inl (fun _ => 0))) (ha _ _ hw)).trans hw
  refine tw_astore_n C dJ7_copyOf_9075b_17 rfl (by decide) rfl ?_
  refine tw_aload_n C 1 dJ7_copyOf_9075b_18 rfl rfl ?_
  refine tw_iconst C (0) dJ7_copyOf_9075b_19 rfl ?_
  refine tw_aload_n C 0 dJ7_copyOf_9075b_20 rfl rfl ?_
  refine tw_iconst C (0) dJ7_copyOf_9075b_21 rfl ?_
  refine tw_aload_n C 1 dJ7_copyOf_9075b_22 rfl rfl ?_
  refine tw_len C hw1 (cap : Int) (ofN _) dJ7_copyOf_9075b_23 ?_
  refine tw_iload_n C 2 dJ7_copyOf_9075b_24 rfl rfl ?_
  refine tw_mmin C wd1167 wd321 wd58 wd322 (Nat.le_of_ble_eq_true rfl) (Nat.le_of_ble_eq_true rfl) ⟨Nat.le_refl _, by show 0 + q ≤ 4000; omega⟩ dJ7_copyOf_9075b_25 ?_
  refine tw_copyM C hw1 tU_eq (sp' := 0) (dp' := 0) (n' := cap) (zI_eq (by decide) (by decide)) (zI_eq (by decide) (by decide)) (by unfold zmin; rw [zN q (by omega), zN cap (by omega), if_neg (by omega)]; exact zN _ (by omega)) (by omega) (by omega) (fun i _ => hf _) wd1168 wd723 wd722 wd62 (Nat.le_of_ble_eq_true rfl) (Nat.le_of_ble_eq_true rfl) dJ7_copyOf_9075b_28 ?_
  refine tw_aload_n C 0 dJ7_copyOf_9075b_31 rfl rfl ?_
  exact tw_aret C ⟨a, ha, rfl, tU_tU⟩ rfl (Or.inr ⟨_, rfl⟩) ⟨Nat.le_refl _, by show 0 + q ≤ 4000; omega⟩ dJ7_copyOf_9075b_32
