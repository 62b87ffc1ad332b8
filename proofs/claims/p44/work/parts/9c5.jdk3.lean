/-! numbers as digits -/
def dC (x : Nat) : Int32 := Int32.ofNat (48 + x)
def dn (v : Nat) : Nat := if v < 10 then 1 else if v < 100 then 2 else if v < 1000 then 3 else 4
def dec (v : Nat) : List Int32 := if v < 10 then [dC v] else if v < 100 then [dC (v / 10), dC (v % 10)] else if v < 1000 then [dC (v / 100), dC (v / 10 % 10), dC (v % 10)] else [dC (v / 1000), dC (v / 100 % 10), dC (v / 10 % 10), dC (v % 10)]
theorem dec_len (v : Nat) : (dec v).length = dn v := by
  unfold dec dn
  split
  · rfl
  · split
    · rfl
    · split <;> rfl
theorem dn1 {v : Nat} (h : v < 10) : dn v = 1 := if_pos h
theorem dn2 {v : Nat} (h : ¬ v < 10) (h2 : v < 100) : dn v = 2 := (if_neg h).trans (if_pos h2)
theorem dn3 {v : Nat} (h : ¬ v < 100) (h2 : v < 1000) : dn v = 3 := (if_neg (by omega)).trans ((if_neg h).trans (if_pos h2))
theorem dn4 {v : Nat} (h : ¬ v < 1000) : dn v = 4 := (if_neg (by omega)).trans ((if_neg (by omega)).trans (if_neg h))
theorem dec1 {v : Nat} (h : v < 10) : dec v = [dC v] := if_pos h
theorem dec2 {v : Nat} (h : ¬ v < 10) (h2 : v < 100) : dec v = [dC (v / 10), dC (v % 10)] := (if_neg h).trans (if_pos h2)
theorem dec3 {v : Nat} (h : ¬ v < 100) (h2 : v < 1000) : dec v = [dC (v / 100), dC (v / 10 % 10), dC (v % 10)] := (if_neg (by omega)).trans ((if_neg h).trans (if_pos h2))
theorem dec4 {v : Nat} (h : ¬ v < 1000) : dec v = [dC (v / 1000), dC (v / 100 % 10), dC (v / 10 % 10), dC (v % 10)] := (if_neg (by omega)).trans ((if_neg (by omega)).trans (if_neg h))
theorem dC_nar : ∀ x, x < 10 → vp_nar .byte (Int32.ofInt (Int32.ofNat (48 + x)).toInt) = dC x := by
  intro x hx
  rw [Int32.ofInt_toInt]
  have : ∀ y, y < 10 → vp_nar .byte (Int32.ofNat (48 + y)) = Int32.ofNat (48 + y) := by decide
  exact this x hx
theorem tc_J6_stringSize_0f7a4 (l : Launch) (E : xE) (A : Nat → Prop) (ss : tSs) (M : tMp) (v : Nat) (hv : v < 10000) : tMet l E yJ6_stringSize_0f7a4 cJ6_stringSize_0f7a4 4 (some .int) { frames := 0, cells := 0, slots := 0, locals := 0 } [iV (v : Int)] A ss M (fun r M2 => r = some (iV (dn v : Int)) ∧ M2 = M) := by
  refine tMet.of (by decide) (Nat.le_of_ble_eq_true rfl) fun X hE hl hnm C => ?_
  subst hE
  have step : ∀ (i q : Int), 1 ≤ i → i < 10 → -10000 ≤ q → q ≤ -10 → (q < -(v : Int) → some (iV i) = some (iV (dn v : Int)) ∧ M = M) → (-(v : Int) ≤ q → TO X A (tQf X A (fun r M2 => r = some (iV (dn v : Int)) ∧ M2 = M) { frames := 0, cells := 0, slots := 0, locals := 0 }) M 0 0 16 [(3, iV (i + 1)), (2, iV (10 * q)), (0, iV (-(v : Int))), (1, iV 0)] []) → TO X A (tQf X A (fun r M2 => r = some (iV (dn v : Int)) ∧ M2 = M) { frames := 0, cells := 0, slots := 0, locals := 0 }) M 0 0 16 [(3, iV i), (2, iV q), (0, iV (-(v : Int))), (1, iV 0)] [] := by
    intro i q h1 h2 h3 h4 k1 k2
    refine tw_iload_n C 0 dJ6_stringSize_0f7a4_16 rfl rfl ?_
    refine tw_bipush C (10) dJ6_stringSize_0f7a4_17 rfl ?_
    refine tw_icmp_ge C 42 (x' := i) (y' := 10) (zI_eq (by omega) (by omega)) (zI_eq (by decide) (by decide)) dJ6_stringSize_0f7a4_19 rfl (fun hc => absurd hc (by omega)) (fun _ => ?_)
    refine tw_iload_n C 2 dJ6_stringSize_0f7a4_22 rfl rfl ?_
    refine tw_iload_n C 1 dJ6_stringSize_0f7a4_23 rfl rfl ?_
    refine tw_icmp_le C 31 (x' := -(v : Int)) (y' := q) (zI_eq (by omega) (by omega)) (zI_eq (by omega) (by omega)) dJ6_stringSize_0f7a4_24 rfl (fun hc => ?_) (fun hc => ?_)
    · refine tw_bipush C (10) dJ6_stringSize_0f7a4_31 rfl ?_
      refine tw_iload_n C 1 dJ6_stringSize_0f7a4_33 rfl rfl ?_
      refine tw_imul C dJ6_stringSize_0f7a4_34 ?_
      refine tw_istore_n C dJ6_stringSize_0f7a4_35 rfl (by decide) rfl ?_
      refine tw_iinc C 1 _ dJ6_stringSize_0f7a4_36 rfl rfl (by decide) rfl ?_
      refine tw_goto C 16 dJ6_stringSize_0f7a4_39 rfl ?_
      exact k2 hc
    · refine tw_iload_n C 0 dJ6_stringSize_0f7a4_27 rfl rfl ?_
      refine tw_iload_n C 3 dJ6_stringSize_0f7a4_28 rfl rfl ?_
      refine tw_iadd C dJ6_stringSize_0f7a4_29 ?_
      exact tw_iret C (by rw [Int.add_zero]; exact k1 (by omega)) rfl ⟨Nat.zero_le _, Nat.zero_le _⟩ dJ6_stringSize_0f7a4_30
  refine tw_iconst C (1) dJ6_stringSize_0f7a4_0 rfl ?_
  refine tw_istore_n C dJ6_stringSize_0f7a4_1 rfl (by decide) rfl ?_
  refine tw_iload_n C 1 dJ6_stringSize_0f7a4_2 rfl rfl ?_
  refine tw_if_lt C 11 (x' := (v : Int)) (zN v (by omega)) dJ6_stringSize_0f7a4_3 rfl (fun hc => absurd hc (by omega)) (fun _ => ?_)
  refine tw_iconst C (0) dJ6_stringSize_0f7a4_6 rfl ?_
  refine tw_istore_n C dJ6_stringSize_0f7a4_7 rfl (by decide) rfl ?_
  refine tw_iload_n C 1 dJ6_stringSize_0f7a4_8 rfl rfl ?_
  refine tw_ineg C dJ6_stringSize_0f7a4_9 ?_
  refine tw_istore_n C dJ6_stringSize_0f7a4_10 rfl (by decide) rfl ?_
  refine tw_bipush C (-10) dJ6_stringSize_0f7a4_11 rfl ?_
  refine tw_istore_n C dJ6_stringSize_0f7a4_13 rfl (by decide) rfl ?_
  refine tw_iconst C (1) dJ6_stringSize_0f7a4_14 rfl ?_
  refine tw_istore_n C dJ6_stringSize_0f7a4_15 rfl (by decide) rfl ?_
  unfold dn at step ⊢
  refine step 1 (-10) (by omega) (by omega) (by omega) (by omega) (fun h => ?_) (fun h => ?_)
  · rw [if_pos (by omega)]
    exact ⟨rfl, rfl⟩
  refine step (1 + 1) (10 * -10) (by omega) (by omega) (by omega) (by omega) (fun h1 => ?_) (fun h1 => ?_)
  · rw [if_neg (by omega), if_pos (by omega)]
    exact ⟨rfl, rfl⟩
  refine step (1 + 1 + 1) (10 * (10 * -10)) (by omega) (by omega) (by omega) (by omega) (fun h2 => ?_) (fun h2 => ?_)
  · rw [if_neg (by omega), if_neg (by omega), if_pos (by omega)]
    exact ⟨rfl, rfl⟩
  refine step (1 + 1 + 1 + 1) (10 * (10 * (10 * -10))) (by omega) (by omega) (by omega) (by omega) (fun h3 => ?_) (fun h3 => ?_)
  · rw [if_neg (by omega), if_neg (by omega), if_neg (by omega)]
    exact ⟨rfl, rfl⟩
  omega
def gcF (f : Nat → Int32) (p u : Nat) : Nat → Int32 := fun j => if j + 1 = p then dC (u % 10) else if j + 2 = p ∧ 10 ≤ u then dC (u / 10) else f j
theorem gcF_F {f : Nat → Int32} {p u : Nat} (hf : bF f) (hu : u < 100) : bF (gcF f p u) := fun i => by
  have hd : ∀ x, x < 10 → fits .byte (.int (dC x)) = true := by decide
  unfold gcF
  split
  · exact hd _ (by omega)
  · split
    · exact hd _ (by omega)
    · exact hf i
theorem gc_tail {X : xX} {A : Nat → Prop} {ss : tSs} {rm : Room} {M : tMp} {P : Option Value → tMp → Prop} (C : tCx X A ss cJ6_getChars_ba4f3 "java/lang/Integer" (some .int) rm 7) {w cap p u : Nat} {f : Nat → Int32} (hw : M w = some (.inl ((xXE X).2.1.1 2, cap, .inl f))) (hu : u < 100) (hp : (if u < 10 then 1 else 2) ≤ p) (hc : p ≤ cap) (hcap : cap < 100000) (hP : P (some (iV ((p - (if u < 10 then 1 else 2) : Nat) : Int))) (tU M w (.inl ((xXE X).2.1.1 2, cap, .inl (gcF f p u))))) : TO X A (tQf X A P rm) M 0 0 72 [(0, iV (-(u : Int))), (2, .ref w), (5, iV (p : Int)), (6, iV 0)] [] := by
  have hp1 : 1 ≤ p := by split at hp <;> omega
  refine tw_aload_n C 1 dJ6_getChars_ba4f3_72 rfl rfl ?_
  refine tw_iinc C 2 _ dJ6_getChars_ba4f3_73 rfl rfl (by decide) rfl ?_
  refine tw_iload C 0 dJ6_getChars_ba4f3_76 rfl ?_
  refine tw_gstat C (C.2.2.2.2.2.2.2.2.2.2.2.2.2.1).2.2.1 wd1237 rfl dJ6_getChars_ba4f3_78 ?_
  refine tw_iload_n C 1 dJ6_getChars_ba4f3_81 rfl rfl ?_
  refine tw_ineg C dJ6_getChars_ba4f3_82 ?_
  refine tw_bldT C (C.2.2.2.2.2.2.2.2.2.2.2.2.2.1).2.2.2.1 (i' := (u : Int)) (by rw [Int.neg_neg]; exact zN u (by omega)) (by omega) (by omega) dJ6_getChars_ba4f3_83 ?_
  refine tw_bst C hw (i' := ((p - 1 : Nat) : Int)) (by rw [zI_eq (by omega) (by omega)]; omega) (by omega) (by omega) dJ6_getChars_ba4f3_84 ?_
  refine tw_iload_n C 1 dJ6_getChars_ba4f3_85 rfl rfl ?_
  refine tw_bipush C (-9) dJ6_getChars_ba4f3_86 rfl ?_
  refine tw_icmp_ge C 104 (x' := -(u : Int)) (y' := -9) (zI_eq (by omega) (by omega)) (zI_eq (by decide) (by decide)) dJ6_getChars_ba4f3_88 rfl (fun hc => ?_) (fun hc => ?_)
  · refine tw_iload C 3 dJ6_getChars_ba4f3_104 rfl ?_
    refine tw_if_eq C 118 (x' := 0) (zI_eq (by decide) (by decide)) dJ6_getChars_ba4f3_106 rfl (fun _ => ?_) (fun hc => absurd rfl hc)
    refine tw_iload C 0 dJ6_getChars_ba4f3_118 rfl ?_
    refine tw_iret C ?_ rfl ⟨Nat.zero_le _, Nat.zero_le _⟩ dJ6_getChars_ba4f3_120
    rw [if_pos (by omega)] at hP
    have e1 : (p : Int) + -1 = ((p - 1 : Nat) : Int) := by omega
    have e2 : upd f ((p - 1 : Nat) : Int).toNat (vp_nar .byte (Int32.ofInt (Int32.ofNat (48 + (u : Int).toNat % 10)).toInt)) = gcF f p u := by
      rw [dC_nar _ (by omega)]
      funext j
      unfold upd gcF
      by_cases c : j + 1 = p
      · rw [if_pos (by omega), if_pos c]
        rfl
      · rw [if_neg (by omega), if_neg c, if_neg (by omega)]
    rw [e1, e2]
    exact hP
  · have hp2 : 2 ≤ p := by rw [if_neg (by omega)] at hp; exact hp
    refine tw_aload_n C 2 dJ6_getChars_ba4f3_91 rfl rfl ?_
    refine tw_iinc C 0 _ dJ6_getChars_ba4f3_92 rfl rfl (by decide) rfl ?_
    refine tw_iload C 0 dJ6_getChars_ba4f3_95 rfl ?_
    refine tw_gstat C (C.2.2.2.2.2.2.2.2.2.2.2.2.2.1).2.2.2.2.1 wd1239 rfl dJ6_getChars_ba4f3_97 ?_
    refine tw_iload_n C 1 dJ6_getChars_ba4f3_100 rfl rfl ?_
    refine tw_ineg C dJ6_getChars_ba4f3_101 ?_
    refine tw_bldT C (C.2.2.2.2.2.2.2.2.2.2.2.2.2.1).2.2.2.2.2 (i' := (u : Int)) (by rw [Int.neg_neg]; exact zN u (by omega)) (by omega) (by omega) dJ6_getChars_ba4f3_102 ?_
    refine tw_bst C tU_eq (i' := ((p - 2 : Nat) : Int)) (by rw [zI_eq (by omega) (by omega)]; omega) (by omega) (by omega) dJ6_getChars_ba4f3_103 ?_
    refine tw_iload C 3 dJ6_getChars_ba4f3_104 rfl ?_
    refine tw_if_eq C 118 (x' := 0) (zI_eq (by decide) (by decide)) dJ6_getChars_ba4f3_106 rfl (fun _ => ?_) (fun hc => absurd rfl hc)
    refine tw_iload C 0 dJ6_getChars_ba4f3_118 rfl ?_
    refine tw_iret C ?_ rfl ⟨Nat.zero_le _, Nat.zero_le _⟩ dJ6_getChars_ba4f3_120
    rw [if_neg (by omega)] at hP
    have e1 : (p : Int) + -1 + -1 = ((p - 2 : Nat) : Int) := by omega
    have e2 : upd (upd f ((p - 1 : Nat) : Int).toNat (vp_nar .byte (Int32.ofInt (Int32.ofNat (48 + (u : Int).toNat % 10)).toInt))) ((p - 2 : Nat) : Int).toNat (vp_nar .byte (Int32.ofInt (Int32.ofNat (48 + (u : Int).toNat / 10)).toInt)) = gcF f p u := by
      rw [dC_nar _ (by omega), dC_nar _ (by omega)]
      funext j
      unfold upd gcF
      by_cases c : j + 1 = p
      · rw [if_neg (by omega), if_pos (by omega), if_pos c]
        rfl
      · by_cases d : j + 2 = p
        · rw [if_pos (by omega), if_neg c, if_pos ⟨d, by omega⟩]
          rfl
        · rw [if_neg (by omega), if_neg (by omega), if_neg c, if_neg (fun q => d q.1)]
    rw [e1, e2, tU_tU]
    exact hP
theorem tc_J6_getChars_ba4f3 (l : Launch) (E : xE) (A : Nat → Prop) (ss : tSs) (M : tMp) (v p w cap : Nat) (f : Nat → Int32) (hw : M w = some (.inl (E.2.1.1 2, cap, .inl f))) (hv : v < 10000) (hp : dn v ≤ p) (hcc : p ≤ cap) (hcap : cap < 100000) (hf : bF f) : tMet l E yJ6_getChars_ba4f3 cJ6_getChars_ba4f3 7 (some .int) { frames := 0, cells := 0, slots := 0, locals := 0 } [iV (v : Int), iV (p : Int), .ref w] A ss M (fun r M2 => ∃ x f2, r = some (iV x) ∧ M2 = tU M w (.inl (E.2.1.1 2, cap, .inl f2)) ∧ bF f2 ∧ (∀ j, j + dn v < p + 0 → f2 j = f j) ∧ ∀ j, j < dn v → f2 (p - dn v + j) = (dec v).getD j 0) := by
  refine tMet.of (by decide) (Nat.le_of_ble_eq_true rfl) fun X hE hl hnm C => ?_
  subst hE
  have hp3 : 1 ≤ p ∧ (¬ v < 10 → 2 ≤ p) ∧ (¬ v < 100 → 3 ≤ p) ∧ (¬ v < 1000 → 4 ≤ p) := by
    unfold dn at hp
    repeat' split at hp
    all_goals omega
  refine tw_iload_n C 1 dJ6_getChars_ba4f3_0 rfl rfl ?_
  refine tw_istore C dJ6_getChars_ba4f3_1 (by decide) rfl ?_
  refine tw_iload_n C 1 dJ6_getChars_ba4f3_3 rfl rfl ?_
  refine tw_if_ge C 11 (x' := (v : Int)) (zN v (by omega)) dJ6_getChars_ba4f3_4 rfl (fun _ => ?_) (fun hc => absurd (by omega) hc)
  refine tw_iconst C (0) dJ6_getChars_ba4f3_11 rfl ?_
  refine tw_istore C dJ6_getChars_ba4f3_12 (by decide) rfl ?_
  refine tw_iload C 0 dJ6_getChars_ba4f3_14 rfl ?_
  refine tw_if_ne C 22 (x' := 0) (zI_eq (by decide) (by decide)) dJ6_getChars_ba4f3_16 rfl (fun hc => absurd rfl hc) (fun _ => ?_)
  refine tw_iload_n C 2 dJ6_getChars_ba4f3_19 rfl rfl ?_
  refine tw_ineg C dJ6_getChars_ba4f3_20 ?_
  refine tw_istore_n C dJ6_getChars_ba4f3_21 rfl (by decide) rfl ?_
  refine tw_iload_n C 0 dJ6_getChars_ba4f3_22 rfl rfl ?_
  refine tw_bipush C (-100) dJ6_getChars_ba4f3_23 rfl ?_
  refine tw_icmp_gt C 72 (x' := -(v : Int)) (y' := -100) (zI_eq (by omega) (by omega)) (zI_eq (by decide) (by decide)) dJ6_getChars_ba4f3_25 rfl (fun hc => ?_) (fun hc => ?_)
  · refine tw_pick [0, 4, 2, 1] rfl ?_
    have hvc : v < 100 := by omega
    refine gc_tail C hw hvc (by split <;> omega) hcc hcap ?_
    refine ⟨_, _, rfl, rfl, gcF_F hf hvc, fun j hj => ?_, fun j hj => ?_⟩
    · by_cases h : v < 10
      · rw [dn1 h] at hj
        unfold gcF
        rw [if_neg (by omega), if_neg (by omega)]
      · rw [dn2 h hvc] at hj
        unfold gcF
        rw [if_neg (by omega), if_neg (by omega)]
    · by_cases h : v < 10
      · rw [dn1 h] at hj ⊢
        rw [dec1 h]
        unfold gcF
        rw [if_pos (by omega), show j = 0 by omega, show v % 10 = v by omega]
        rfl
      · have := hp3.2.1 h
        rw [dn2 h hvc] at hj ⊢
        rw [dec2 h hvc]
        unfold gcF
        rcases (show j = 0 ∨ j = 1 by omega) with rfl | rfl
        · rw [if_neg (by omega), if_pos (by omega)]
          rfl
        · rw [if_pos (by omega)]
          rfl
  · have hq : (-(v : Int)).tdiv 100 = -((v / 100 : Nat) : Int) := by rw [Int.neg_tdiv]; rfl
    refine tw_iload_n C 0 dJ6_getChars_ba4f3_28 rfl rfl ?_
    refine tw_bipush C (100) dJ6_getChars_ba4f3_29 rfl ?_
    refine tw_idiv C (x' := -(v : Int)) (y' := 100) (zI_eq (by omega) (by omega)) (zI_eq (by decide) (by decide)) (by decide) dJ6_getChars_ba4f3_31 ?_
    rw [hq]
    refine tw_istore_n C dJ6_getChars_ba4f3_32 rfl (by decide) rfl ?_
    refine tw_iload_n C 0 dJ6_getChars_ba4f3_33 rfl rfl ?_
    refine tw_bipush C (100) dJ6_getChars_ba4f3_34 rfl ?_
    refine tw_imul C dJ6_getChars_ba4f3_36 ?_
    refine tw_iload_n C 1 dJ6_getChars_ba4f3_37 rfl rfl ?_
    refine tw_isub C dJ6_getChars_ba4f3_38 ?_
    refine tw_istore C dJ6_getChars_ba4f3_39 (by decide) rfl ?_
    refine tw_iload_n C 1 dJ6_getChars_ba4f3_41 rfl rfl ?_
    refine tw_istore_n C dJ6_getChars_ba4f3_42 rfl (by decide) rfl ?_
    refine tw_aload_n C 6 dJ6_getChars_ba4f3_43 rfl rfl ?_
    refine tw_iinc C 4 _ dJ6_getChars_ba4f3_44 rfl rfl (by decide) rfl ?_
    refine tw_iload C 0 dJ6_getChars_ba4f3_47 rfl ?_
    refine tw_gstat C (C.2.2.2.2.2.2.2.2.2.2.2.2.2.1).2.2.1 wd1237 rfl dJ6_getChars_ba4f3_49 ?_
    refine tw_iload C 2 dJ6_getChars_ba4f3_52 rfl ?_
    refine tw_bldT C (C.2.2.2.2.2.2.2.2.2.2.2.2.2.1).2.2.2.1 (i' := ((v % 100 : Nat) : Int)) (by rw [zI_eq (by omega) (by omega)]; omega) (by omega) (by omega) dJ6_getChars_ba4f3_54 ?_
    refine tw_bst C hw (i' := ((p - 1 : Nat) : Int)) (by rw [zI_eq (by omega) (by omega)]; omega) (by omega) (by omega) dJ6_getChars_ba4f3_55 ?_
    refine tw_aload_n C 6 dJ6_getChars_ba4f3_56 rfl rfl ?_
    refine tw_iinc C 0 _ dJ6_getChars_ba4f3_57 rfl rfl (by decide) rfl ?_
    refine tw_iload C 0 dJ6_getChars_ba4f3_60 rfl ?_
    refine tw_gstat C (C.2.2.2.2.2.2.2.2.2.2.2.2.2.1).2.2.2.2.1 wd1239 rfl dJ6_getChars_ba4f3_62 ?_
    refine tw_iload C 2 dJ6_getChars_ba4f3_65 rfl ?_
    refine tw_bldT C (C.2.2.2.2.2.2.2.2.2.2.2.2.2.1).2.2.2.2.2 (i' := ((v % 100 : Nat) : Int)) (by rw [zI_eq (by omega) (by omega)]; omega) (by omega) (by omega) dJ6_getChars_ba4f3_67 ?_
    refine tw_bst C tU_eq (i' := ((p - 2 : Nat) : Int)) (by rw [zI_eq (by omega) (by omega)]; omega) (by omega) (by omega) dJ6_getChars_ba4f3_68 ?_
    refine tw_goto C 22 dJ6_getChars_ba4f3_69 rfl ?_
    refine tw_iload_n C 1 dJ6_getChars_ba4f3_22 rfl rfl ?_
    refine tw_bipush C (-100) dJ6_getChars_ba4f3_23 rfl ?_
    refine tw_icmp_gt C 72 (x' := -((v / 100 : Nat) : Int)) (y' := -100) (zI_eq (by omega) (by omega)) (zI_eq (by decide) (by decide)) dJ6_getChars_ba4f3_25 rfl (fun _ => ?_) (fun hc => absurd (by omega) hc)
    refine tw_pick [1, 6, 0, 4] rfl ?_
    rw [tU_tU]
    have h31 := hp3.2.2.1 (by omega)
    have e1 : (p : Int) + -1 + -1 = ((p - 2 : Nat) : Int) := by omega
    rw [e1]
    have hp4 : ¬ v / 100 < 10 → 2 ≤ p - 2 := fun h => by have := hp3.2.2.2 (by omega); omega
    refine gc_tail C tU_eq (by omega) (by split <;> omega) (by omega) hcap ?_
    rw [tU_tU, show ((v % 100 : Nat) : Int).toNat = v % 100 from rfl, dC_nar _ (by omega), dC_nar _ (by omega), show v % 100 % 10 = v % 10 by omega, show v % 100 / 10 = v / 10 % 10 by omega]
    have hd : ∀ x, x < 10 → fits .byte (.int (dC x)) = true := by decide
    refine ⟨_, _, rfl, rfl, gcF_F (fun i => ?_) (by omega), fun j hj => ?_, fun j hj => ?_⟩
    · unfold upd
      split
      · exact hd _ (by omega)
      · split
        · exact hd _ (by omega)
        · exact hf i
    · by_cases h : v < 1000
      · rw [dn3 (by omega) h] at hj
        unfold gcF upd
        rw [if_neg (by omega), if_neg (by omega), if_neg (by omega), if_neg (by omega)]
      · rw [dn4 h] at hj
        have := hp3.2.2.2 h
        unfold gcF upd
        rw [if_neg (by omega), if_neg (by omega), if_neg (by omega), if_neg (by omega)]
    · by_cases h : v < 1000
      · rw [dn3 (by omega) h] at hj ⊢
        rw [dec3 (by omega) h]
        unfold gcF upd
        rcases (show j = 0 ∨ j = 1 ∨ j = 2 by omega) with rfl | rfl | rfl
        · rw [if_pos (by omega), show v / 100 % 10 = v / 100 by omega]
          rfl
        · rw [if_neg (by omega), if_neg (by omega), if_pos (by omega)]
          rfl
        · rw [if_neg (by omega), if_neg (by omega), if_neg (by omega), if_pos (by omega)]
          rfl
      · have := hp3.2.2.2 h
        rw [dn4 h] at hj ⊢
        rw [dec4 h]
        unfold gcF upd
        rcases (show j = 0 ∨ j = 1 ∨ j = 2 ∨ j = 3 by omega) with rfl | rfl | rfl | rfl
        · rw [if_neg (by omega), if_pos (by omega), show v / 100 / 10 = v / 1000 by omega]
          rfl
        · rw [if_pos (by omega)]
          rfl
        · rw [if_neg (by omega), if_neg (by omega), if_pos (by omega)]
          rfl
        · rw [if_neg (by omega), if_neg (by omega), if_neg (by omega), if_pos (by omega)]
          rfl
