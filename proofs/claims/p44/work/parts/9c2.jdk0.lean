/-! words of the JDK's methods; texts in a StringBuilder -/
theorem mt_J7_copyOf_9075b : xMth yJ7_copyOf_9075b cJ7_copyOf_9075b 3 (some (.array .byte)) 2 := ⟨wd1159, wd57, ⟨by decide, by decide, rfl⟩⟩
theorem st_J7_copyOf_9075b : Cond.static yJ7_copyOf_9075b ∈ GW := wd1158
theorem mt_J7_copyOfRange_39247 : xMth yJ7_copyOfRange_39247 cJ7_copyOfRange_39247 3 (some (.array .byte)) 3 := ⟨wd1292, wd57, ⟨by decide, by decide, rfl⟩⟩
theorem st_J7_copyOfRange_39247 : Cond.static yJ7_copyOfRange_39247 ∈ GW := wd1291
theorem mt_J7_copyOfRangeByte_39247 : xMth yJ7_copyOfRangeByte_39247 cJ7_copyOfRangeByte_39247 5 (some (.array .byte)) 3 := ⟨wd1295, wd57, ⟨by decide, by decide, rfl⟩⟩
theorem st_J7_copyOfRangeByte_39247 : Cond.static yJ7_copyOfRangeByte_39247 ∈ GW := wd1294
theorem mt_J7_checkLength_df160 : xMth yJ7_checkLength_df160 cJ7_checkLength_df160 2 none 2 := ⟨wd1298, wd57, ⟨by decide, by decide, rfl⟩⟩
theorem st_J7_checkLength_df160 : Cond.static yJ7_checkLength_df160 ∈ GW := wd1297
theorem mt_J8_newLength_cabcc : xMth yJ8_newLength_cabcc cJ8_newLength_cabcc 4 (some .int) 3 := ⟨wd1150, wd69, ⟨by decide, by decide, rfl⟩⟩
theorem st_J8_newLength_cabcc : Cond.static yJ8_newLength_cabcc ∈ GW := wd1149
theorem mt_J6_stringSize_0f7a4 : xMth yJ6_stringSize_0f7a4 cJ6_stringSize_0f7a4 4 (some .int) 1 := ⟨wd1233, wd64, ⟨by decide, by decide, rfl⟩⟩
theorem st_J6_stringSize_0f7a4 : Cond.static yJ6_stringSize_0f7a4 ∈ GW := wd1232
theorem mt_J6_getChars_ba4f3 : xMth yJ6_getChars_ba4f3 cJ6_getChars_ba4f3 7 (some .int) 3 := ⟨wd1236, wd64, ⟨by decide, by decide, rfl⟩⟩
theorem st_J6_getChars_ba4f3 : Cond.static yJ6_getChars_ba4f3 ∈ GW := wd1235
theorem im_J0_length_8abf5 : Cond.instanceMethod yJ0_length_8abf5 ∈ GW := wd870
theorem im_J0_coder_7d493 : Cond.instanceMethod yJ0_coder_7d493 ∈ GW := wd874
theorem im_J0_isLatin1_aae02 : Cond.instanceMethod yJ0_isLatin1_aae02 ∈ GW := wd884
theorem im_J0_charAt_5068e : Cond.instanceMethod yJ0_charAt_5068e ∈ GW := wd880
theorem mt_J0_getBytes_840e7 : xMth yJ0_getBytes_840e7 cJ0_getBytes_840e7 4 none 3 := ⟨wd1221, wd67, ⟨by decide, by decide, rfl⟩⟩
theorem im_J0_getBytes_840e7 : Cond.instanceMethod yJ0_getBytes_840e7 ∈ GW := wd1219
theorem vr_J0_getBytes_840e7 : xVir yJ0_getBytes_840e7 := ⟨im_J0_getBytes_840e7, wd1220⟩
theorem mt_J5_ensureCapacityInternal_d00df : xMth yJ5_ensureCapacityInternal_d00df cJ5_ensureCapacityInternal_d00df 3 none 1 := ⟨wd1143, wd65, ⟨by decide, by decide, rfl⟩⟩
theorem im_J5_ensureCapacityInternal_d00df : Cond.instanceMethod yJ5_ensureCapacityInternal_d00df ∈ GW := wd1142
theorem mt_J5_newCapacity_0f7a4 : xMth yJ5_newCapacity_0f7a4 cJ5_newCapacity_0f7a4 6 (some .int) 1 := ⟨wd1147, wd65, ⟨by decide, by decide, rfl⟩⟩
theorem im_J5_newCapacity_0f7a4 : Cond.instanceMethod yJ5_newCapacity_0f7a4 ∈ GW := wd1146
theorem mt_J5_putStringAt_47b60 : xMth yJ5_putStringAt_47b60 cJ5_putStringAt_47b60 3 none 2 := ⟨wd1193, wd65, ⟨by decide, by decide, rfl⟩⟩
theorem im_J5_putStringAt_47b60 : Cond.instanceMethod yJ5_putStringAt_47b60 ∈ GW := wd1192
theorem mt_J5_inflateIfNeededFor_a7421 : xMth yJ5_inflateIfNeededFor_a7421 cJ5_inflateIfNeededFor_a7421 2 none 1 := ⟨wd1197, wd65, ⟨by decide, by decide, rfl⟩⟩
theorem im_J5_inflateIfNeededFor_a7421 : Cond.instanceMethod yJ5_inflateIfNeededFor_a7421 ∈ GW := wd1196
theorem mt_J5_isLatin1_aae02 : xMth yJ5_isLatin1_aae02 cJ5_isLatin1_aae02 1 (some .boolean) 0 := ⟨wd1173, wd65, ⟨by decide, by decide, rfl⟩⟩
theorem im_J5_isLatin1_aae02 : Cond.instanceMethod yJ5_isLatin1_aae02 ∈ GW := wd1170
theorem mt_J5_getValue_6d5f1 : xMth yJ5_getValue_6d5f1 cJ5_getValue_6d5f1 1 (some (.array .byte)) 0 := ⟨wd1280, wd65, ⟨by decide, by decide, rfl⟩⟩
theorem im_J5_getValue_6d5f1 : Cond.instanceMethod yJ5_getValue_6d5f1 ∈ GW := wd1277
theorem mt_J5_length_8abf5 : xMth yJ5_length_8abf5 cJ5_length_8abf5 1 (some .int) 0 := ⟨wd1288, wd65, ⟨by decide, by decide, rfl⟩⟩
theorem im_J5_length_8abf5 : Cond.instanceMethod yJ5_length_8abf5 ∈ GW := wd1282
theorem mt_J4_length_8abf5 : xMth yJ4_length_8abf5 cJ4_length_8abf5 1 (some .int) 0 := ⟨wd1286, wd66, ⟨by decide, by decide, rfl⟩⟩
theorem im_J4_length_8abf5 : Cond.instanceMethod yJ4_length_8abf5 ∈ GW := wd1285
theorem mt_J5_append_cf1ce : xMth yJ5_append_cf1ce cJ5_append_cf1ce 3 (some (.object "java/lang/AbstractStringBuilder")) 1 := ⟨wd1135, wd65, ⟨by decide, by decide, rfl⟩⟩
theorem im_J5_append_cf1ce : Cond.instanceMethod yJ5_append_cf1ce ∈ GW := wd1134
theorem mt_J4_append_cf1ce : xMth yJ4_append_cf1ce cJ4_append_cf1ce 2 (some (.object "java/lang/AbstractStringBuilder")) 1 := ⟨wd1331, wd66, ⟨by decide, by decide, rfl⟩⟩
theorem im_J4_append_cf1ce : Cond.instanceMethod yJ4_append_cf1ce ∈ GW := wd1330
theorem mt_J5_append_c97b9 : xMth yJ5_append_c97b9 cJ5_append_c97b9 4 (some (.object "java/lang/AbstractStringBuilder")) 1 := ⟨wd1230, wd65, ⟨by decide, by decide, rfl⟩⟩
theorem im_J5_append_c97b9 : Cond.instanceMethod yJ5_append_c97b9 ∈ GW := wd1229
theorem mt_J4_append_15ec4 : xMth yJ4_append_15ec4 cJ4_append_15ec4 2 (some (.object "java/lang/StringBuilder")) 1 := ⟨wd1132, wd66, ⟨by decide, by decide, rfl⟩⟩
theorem im_J4_append_15ec4 : Cond.instanceMethod yJ4_append_15ec4 ∈ GW := wd1130
theorem vr_J4_append_15ec4 : xVir yJ4_append_15ec4 := ⟨im_J4_append_15ec4, wd1131⟩
theorem mt_J4_append_bf812 : xMth yJ4_append_bf812 cJ4_append_bf812 2 (some (.object "java/lang/StringBuilder")) 1 := ⟨wd1227, wd66, ⟨by decide, by decide, rfl⟩⟩
theorem im_J4_append_bf812 : Cond.instanceMethod yJ4_append_bf812 ∈ GW := wd1225
theorem vr_J4_append_bf812 : xVir yJ4_append_bf812 := ⟨im_J4_append_bf812, wd1226⟩
theorem mt_J4_toString_0e30d : xMth yJ4_toString_0e30d cJ4_toString_0e30d 1 (some (.object "java/lang/String")) 0 := ⟨wd1266, wd66, ⟨by decide, by decide, rfl⟩⟩
theorem im_J4_toString_0e30d : Cond.instanceMethod yJ4_toString_0e30d ∈ GW := wd1264
theorem vr_J4_toString_0e30d : xVir yJ4_toString_0e30d := ⟨im_J4_toString_0e30d, wd1265⟩
theorem mt_J5_init_d00df : xMth yJ5_init_d00df cJ5_init_d00df 2 none 1 := ⟨wd1105, wd65, ⟨by decide, by decide, rfl⟩⟩
theorem im_J5_init_d00df : Cond.instanceMethod yJ5_init_d00df ∈ GW := wd1104
theorem mt_J4_init_da8c8 : xMth yJ4_init_da8c8 cJ4_init_da8c8 1 none 0 := ⟨wd1102, wd66, ⟨by decide, by decide, rfl⟩⟩
theorem im_J4_init_da8c8 : Cond.instanceMethod yJ4_init_da8c8 ∈ GW := wd1101
theorem mt_J4_init_a7421 : xMth yJ4_init_a7421 cJ4_init_a7421 2 none 1 := ⟨wd1324, wd66, ⟨by decide, by decide, rfl⟩⟩
theorem im_J4_init_a7421 : Cond.instanceMethod yJ4_init_a7421 ∈ GW := wd1323
theorem mt_J5_init_a7421 : xMth yJ5_init_a7421 cJ5_init_a7421 5 none 1 := ⟨wd1327, wd65, ⟨by decide, by decide, rfl⟩⟩
theorem im_J5_init_a7421 : Cond.instanceMethod yJ5_init_a7421 ∈ GW := wd1326
theorem mt_J0_init_81219 : xMth yJ0_init_81219 cJ0_init_81219 2 none 1 := ⟨wd1271, wd67, ⟨by decide, by decide, rfl⟩⟩
theorem im_J0_init_81219 : Cond.instanceMethod yJ0_init_81219 ∈ GW := wd1270
theorem mt_J0_init_db425 : xMth yJ0_init_db425 cJ0_init_db425 5 none 2 := ⟨wd1274, wd67, ⟨by decide, by decide, rfl⟩⟩
theorem im_J0_init_db425 : Cond.instanceMethod yJ0_init_db425 ∈ GW := wd1273
theorem su_J4 : Cond.superclass "java/lang/StringBuilder" "java/lang/AbstractStringBuilder" ∈ GW := gwt4 119 (by decide +kernel) rfl
theorem sm_clone : Cond.sameMethod "[B" "java/lang/Object" "clone" "()Ljava/lang/Object;" ∈ GW := gwt4 153 (by decide +kernel) rfl
theorem sm_J5_isLatin1_aae02 : Cond.sameMethod "java/lang/AbstractStringBuilder" "java/lang/AbstractStringBuilder" "isLatin1" "()Z" ∈ GW := gwt4 163 (by decide +kernel) rfl
theorem sm_J5_getValue_6d5f1 : Cond.sameMethod "java/lang/AbstractStringBuilder" "java/lang/AbstractStringBuilder" "getValue" "()[B" ∈ GW := gwt5 30 (by decide +kernel) rfl
theorem sm_J5_length_8abf5 : Cond.sameMethod "java/lang/AbstractStringBuilder" "java/lang/AbstractStringBuilder" "length" "()I" ∈ GW := gwt5 35 (by decide +kernel) rfl
theorem sm_J5_append_cf1ce : Cond.sameMethod "java/lang/AbstractStringBuilder" "java/lang/AbstractStringBuilder" "append" "(Ljava/lang/String;)Ljava/lang/AbstractStringBuilder;" ∈ GW := gwt6 88 (by decide +kernel) rfl
theorem sm_J5_ensureCapacityInternal_d00df : Cond.sameMethod "java/lang/AbstractStringBuilder" "java/lang/AbstractStringBuilder" "ensureCapacityInternal" "(I)V" ∈ GW := gwt6 90 (by decide +kernel) rfl
theorem sm_J5_newCapacity_0f7a4 : Cond.sameMethod "java/lang/AbstractStringBuilder" "java/lang/AbstractStringBuilder" "newCapacity" "(I)I" ∈ GW := gwt6 91 (by decide +kernel) rfl
theorem sm_J5_putStringAt_47b60 : Cond.sameMethod "java/lang/AbstractStringBuilder" "java/lang/AbstractStringBuilder" "putStringAt" "(ILjava/lang/String;)V" ∈ GW := gwt6 92 (by decide +kernel) rfl
theorem sm_J5_inflateIfNeededFor_a7421 : Cond.sameMethod "java/lang/AbstractStringBuilder" "java/lang/AbstractStringBuilder" "inflateIfNeededFor" "(Ljava/lang/String;)V" ∈ GW := gwt6 93 (by decide +kernel) rfl
theorem sm_J5_append_c97b9 : Cond.sameMethod "java/lang/AbstractStringBuilder" "java/lang/AbstractStringBuilder" "append" "(I)Ljava/lang/AbstractStringBuilder;" ∈ GW := gwt6 95 (by decide +kernel) rfl
theorem sl_J5_isLatin1_aae02 : Cond.selects "java/lang/StringBuilder" yJ5_isLatin1_aae02 yJ5_isLatin1_aae02 ∈ GW := wd1172
theorem sl_J5_getValue_6d5f1 : Cond.selects "java/lang/StringBuilder" yJ5_getValue_6d5f1 yJ5_getValue_6d5f1 ∈ GW := wd1279
theorem sl_J5_length_8abf5 : Cond.selects "java/lang/StringBuilder" yJ5_length_8abf5 yJ4_length_8abf5 ∈ GW := wd1284
theorem sl_J5_append_cf1ce : Cond.selects "java/lang/StringBuilder" yJ5_append_cf1ce yJ4_append_cf1ce ∈ GW := wd1584
theorem wdAB : Cond.arrayClass .byte ∈ GW := gwt0 70 (by decide +kernel) rfl
theorem tU_tU {M : tMp} {a : Nat} {e f : va_E} : tU (tU M a e) a f = tU M a f := by
  funext q
  unfold tU
  split <;> rfl
def sB (E : xE) (M : tMp) (b v n cap : Nat) (f : Nat → Int32) : Prop := M b = some (.inr (12, [.ref v, iV 0, iV 0, iV (n : Int)])) ∧ M v = some (.inl (E.2.1.1 2, cap, .inl f))
def bF (f : Nat → Int32) : Prop := ∀ i, fits .byte (.int (f i)) = true
theorem bF_nar (x : Int32) : fits .byte (.int (vp_nar .byte x)) = true := by
  rw [vp_nar_byte]
  show (decide (-128 ≤ x.toInt8.toInt32) && decide (x.toInt8.toInt32 ≤ 127)) = true
  have h1 := Int8.le_toInt x.toInt8
  have h2 := Int8.toInt_lt x.toInt8
  have e : x.toInt8.toInt32.toInt = x.toInt8.toInt := Int8.toInt_toInt32 _
  have e1 : (-128 : Int32).toInt = -128 := by decide
  have e2 : (127 : Int32).toInt = 127 := by decide
  simp only [Bool.and_eq_true, decide_eq_true_eq, Int32.le_iff_toInt_le, e, e1, e2]
  omega
theorem bF_0 : bF (fun _ => 0) := fun _ => rfl
theorem bF_cpy {f g : Nat → Int32} {s d n : Nat} (hf : bF f) (hg : bF g) : bF (va_cpy f g s d n) := fun i => by
  unfold va_cpy
  split
  · exact hf _
  · exact hg _
theorem bF_upd {f : Nat → Int32} {k : Nat} {x : Int32} (hf : bF f) : bF (upd f k (vp_nar .byte x)) := fun i => by
  unfold upd
  split
  · exact bF_nar x
  · exact hf i
theorem zs0 {x : Int} : zshr x 0 = zI x := by
  unfold zshr zI
  have e : (Int32.ofInt 0 &&& 31 : Int32) = 0 := by decide
  rw [e]
  simp
theorem zl0 {x : Int} : zshl x 0 = zI x := by
  unfold zshl zI
  have e : (Int32.ofInt 0 &&& 31 : Int32) = 0 := by decide
  rw [e]
  simp
theorem iVz (x : Int) : iV (zI x) = iV x := congrArg Value.int (ofI_nI x)
theorem zN (n : Nat) (h : n < 2147483648) : zI (n : Int) = n := zI_eq (by omega) (by omega)
