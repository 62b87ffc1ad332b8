/-! the law's between, cell, dough -/
theorem mt_L_cell : xMth yL_cell cL_cell 2 (some .int) 2 := ⟨wd856, wd48, ⟨by decide, by decide, rfl⟩⟩
theorem st_L_cell : Cond.static yL_cell ∈ GW := wd855
theorem mt_L_dough : xMth yL_dough cL_dough 1 (some (.object "java/lang/String")) 1 := ⟨wd1252, wd48, ⟨by decide, by decide, rfl⟩⟩
theorem st_L_dough : Cond.static yL_dough ∈ GW := wd1251
theorem mt_L_bakery : xMth yL_bakery cL_bakery 7 (some (.object "java/lang/String")) 2 := ⟨wd1097, wd48, ⟨by decide, by decide, rfl⟩⟩
theorem st_L_bakery : Cond.static yL_bakery ∈ GW := wd1096
def bw (x : Int) (lo hi : Nat) : Nat := lo + (zand x 2147483647).toNat % (hi - lo + 1)
theorem bw_le {x : Int} {lo hi : Nat} (h : lo ≤ hi) : lo ≤ bw x lo hi ∧ bw x lo hi ≤ hi := by
  have := Nat.mod_lt (zand x 2147483647).toNat (show 0 < hi - lo + 1 by omega)
  unfold bw
  omega
theorem zand_lo (x : Int) : 0 ≤ zand x 2147483647 ∧ zand x 2147483647 < 2147483648 := by
  refine ⟨?_, Int32.toInt_lt _⟩
  unfold zand
  show 0 ≤ (Int32.ofInt x &&& Int32.ofInt 2147483647).toBitVec.toInt
  refine BitVec.toInt_nonneg_of_msb_false ?_
  rw [Int32.toBitVec_and, BitVec.msb_and]
  have : (Int32.ofInt 2147483647).toBitVec.msb = false := by decide
  rw [this, Bool.and_false]
/-- the law's own strings -/
def lb (i : Nat) : List Int32 := bytLS.getD i []
theorem bL_lb : ∀ i, i < 27 → bL (lb i) := by
  have h1 : ∀ i, i < 27 → ∀ k, k < 16 → fits .byte (.int ((lb i).getD k 0)) = true := by decide +kernel
  have h2 : ∀ i, i < 27 → (lb i).length ≤ 16 := by decide +kernel
  intro i hi k
  by_cases c : k < 16
  · exact h1 i hi k c
  · have := h2 i hi
    show fits .byte (.int ((lb i).getD k 0)) = true
    rw [List.getD_eq_getElem?_getD, List.getElem?_eq_none (by omega)]
    rfl
theorem tc_L_between (l : Launch) (E : xE) (A : Nat → Prop) (ss : tSs) (M : tMp) (x : Int) (lo hi : Nat) (h1 : lo ≤ hi) (h2 : hi < 10000) : tMet l E yL_between cL_between 3 (some .int) { frames := 0, cells := 0, slots := 0, locals := 0 } [iV x, iV (lo : Int), iV (hi : Int)] A ss M (fun r M2 => r = some (iV ((bw x lo hi : Nat) : Int)) ∧ M2 = M) := by
  refine tMet.of (by decide) (Nat.le_of_ble_eq_true rfl) fun X hE hl hnm C => ?_
  subst hE
  have hz := zand_lo x
  refine tw_iload_n C 1 dL_between_0 rfl rfl ?_
  refine tw_iload_n C 0 dL_between_1 rfl rfl ?_
  refine tw_ldc C (2147483647) wd862 rfl dL_between_2 ?_
  refine tw_iand C dL_between_4 ?_
  refine tw_iload_n C 2 dL_between_5 rfl rfl ?_
  refine tw_iload_n C 1 dL_between_6 rfl rfl ?_
  refine tw_isub C dL_between_7 ?_
  refine tw_iconst C (1) dL_between_8 rfl ?_
  refine tw_iadd C dL_between_9 ?_
  refine tw_irem C (x' := zand x 2147483647) (y' := ((hi - lo + 1 : Nat) : Int)) (zI_eq (by omega) (by omega)) (by rw [zI_eq (by omega) (by omega)]; omega) (by omega) dL_between_10 ?_
  refine tw_iadd C dL_between_11 ?_
  refine tw_iret C ⟨?_, rfl⟩ rfl ⟨Nat.zero_le _, Nat.zero_le _⟩ dL_between_12
  have e : zand x 2147483647 = (((zand x 2147483647).toNat : Nat) : Int) := (Int.toNat_of_nonneg hz.1).symm
  have e2 : ((hi : Int) - lo + 1) = ((hi - lo + 1 : Nat) : Int) := by omega
  have e3 : zand x 2147483647 - (zand x 2147483647).tdiv ((hi - lo + 1 : Nat) : Int) * ((hi : Int) - lo + 1) = (((zand x 2147483647).toNat % (hi - lo + 1) : Nat) : Int) := by
    rw [e2, Int.mul_comm, ← Int.tmod_def, e]
    rfl
  rw [e3]
  rfl
def cl (xs : Nat → Int32) (n k : Nat) : Int := if k < n then (xs k).toInt else 1140671485 * (k : Int) + 12820163
theorem tc_L_cell (l : Launch) (E : xE) (A : Nat → Prop) (ss : tSs) (M : tMp) (sr n : Nat) (xs : Nat → Int32) (hS : .inr (sr, n, xs) ∈ ss) (hn : n ≤ 260) (k : Nat) (hk : k < 1000) : tMet l E yL_cell cL_cell 2 (some .int) { frames := 0, cells := 0, slots := 0, locals := 0 } [.ref sr, iV (k : Int)] A ss M (fun r M2 => r = some (iV (cl xs n k)) ∧ M2 = M) := by
  refine tMet.of (by decide) (Nat.le_of_ble_eq_true rfl) fun X hE hl hnm C => ?_
  subst hE
  have hs : va_T .int sr n (fun j => .int (xs j)) A (xXs X) (xXs X).heap := C.2.2.2.2.2.2.2.2.2.2.2.2.2.2.2 _ hS
  refine tw_iload_n C 1 dL_cell_0 rfl rfl ?_
  refine tw_aload_n C 0 dL_cell_1 rfl rfl ?_
  refine tw_lenT C hs (n : Int) (ofN _) dL_cell_2 ?_
  refine tw_icmp_ge C 12 (x' := (k : Int)) (y' := (n : Int)) (zN k (by omega)) (zN n (by omega)) dL_cell_3 rfl (fun hc => ?_) (fun hc => ?_)
  · refine tw_ldc C (1140671485) wd857 rfl dL_cell_12 ?_
    refine tw_iload_n C 1 dL_cell_14 rfl rfl ?_
    refine tw_imul C dL_cell_15 ?_
    refine tw_ldc C (12820163) wd858 rfl dL_cell_16 ?_
    refine tw_iadd C dL_cell_18 ?_
    exact tw_iret C ⟨by unfold cl; rw [if_neg (by omega)], rfl⟩ rfl ⟨Nat.zero_le _, Nat.zero_le _⟩ dL_cell_19
  · refine tw_aload_n C 0 dL_cell_6 rfl rfl ?_
    refine tw_iload_n C 1 dL_cell_7 rfl rfl ?_
    refine tw_ildT C hs (i' := (k : Int)) (zN k (by omega)) (by omega) (by omega) dL_cell_8 ?_
    refine tw_goto C 19 dL_cell_9 rfl ?_
    exact tw_iret C ⟨by unfold cl; rw [if_pos (by omega)]; rfl, rfl⟩ rfl ⟨Nat.zero_le _, Nat.zero_le _⟩ dL_cell_19
theorem kp_step {M Mi Mj : tMp} {b vi vj : Nat} (h : ∀ q e, M q = some e → Mi q = some e ∧ q ≠ b ∧ q ≠ vi) (hk : tKp Mi Mj b vi vj) : ∀ q e, M q = some e → Mj q = some e ∧ q ≠ b ∧ q ≠ vj := fun q e hq => by
  obtain ⟨h1, h2, h3⟩ := h q e hq
  obtain ⟨g1, g2⟩ := hk q e h2 h3 h1
  exact ⟨g1, h2, g2⟩
theorem sT_0 {E : xE} {M : tMp} {b v cap : Nat} {f : Nat → Int32} (h : sB E M b v 0 cap f) (hc : cap ≤ 4000) (hf : bF f) : sT E M b v [] cap 0 := ⟨f, h, Nat.zero_le _, hc, hf, fun k hk => absurd hk (Nat.not_lt_zero k), Nat.le_refl _⟩
/-- the text of a dough -/
def dT (x : Int) : List Int32 := [] ++ lb 18 ++ dec (bw x 1 15) ++ lb 19 ++ dec (bw (zshr x 4) 0 60) ++ lb 20 ++ dec (bw (zshr x 9) 1 10) ++ lb 21 ++ dec (bw (zshr x 12) 0 40) ++ lb 22 ++ dec (bw (zshr x 16) 0 120) ++ lb 23 ++ dec (bw (zshr x 20) 10 40) ++ lb 5 ++ dec (bw (zshr x 5) 180 240) ++ lb 24 ++ dec (bw (zshr x 14) 5 30) ++ lb 25 ++ dec (bw (zshr x 7) 60 400) ++ lb 26 ++ dec (bw (zshr x 11) 0 200)
theorem tc_L_dough (l : Launch) (E : xE) (A : Nat → Prop) (ss : tSs) (M : tMp) (x : Int) : tMet l E yL_dough cL_dough 1 (some (.object "java/lang/String")) { frames := 6, cells := 24, slots := 84024, locals := 270 } [iV x] A ss M (fun r M2 => ∃ a w, r = some (.ref a) ∧ sS E M2 a w (dT x) 104 ∧ ∀ q e, M q = some e → M2 q = some e ∧ q ≠ a ∧ q ≠ w) := by
  refine tMet.of (by decide) (Nat.le_of_ble_eq_true rfl) fun X hE hl hnm C => ?_
  subst hE
  refine tw_new C cls_J4 (fs := [.null, .int 0, .int 0, .int 0]) (fun j hj => by rcases (show j = 0 ∨ j = 1 ∨ j = 2 ∨ j = 3 by omega) with rfl | rfl | rfl | rfl <;> rfl) wd1098 wd1099 wd66 dL_dough_0 (Nat.le_of_ble_eq_true rfl) (Nat.le_of_ble_eq_true rfl) (fun b hb => ?_)
  refine tw_dup C dL_dough_3 rfl ?_
  refine tw_callI C (tGo_same C) (As := []) (tc_J4_init_da8c8 _ _ _ _ _ b tU_eq) mt_J4_init_da8c8 rfl im_J4_init_da8c8 wd1100 rfl ⟨(Nat.le_of_ble_eq_true rfl), (Nat.le_of_ble_eq_true rfl)⟩ ⟨(Nat.le_of_ble_eq_true rfl), (Nat.le_of_ble_eq_true rfl)⟩ rfl (Nat.le_of_ble_eq_true rfl) dL_dough_4 ?_
  rintro _ M0 ⟨rfl, v0, cap0, f0, k1, k2, k3, k4, k5⟩
  show TO X A _ _ _ _ _ _ (.ref b :: [])
  have h0 := sT_0 k1 k3 k4
  have p0 : ∀ q e, M q = some e → M0 q = some e ∧ q ≠ b ∧ q ≠ v0 := fun q e hq => ⟨(k5 q e (hb q e hq) ((tU_ne (hb q e hq)).trans hq)).1, hb q e hq, (k5 q e (hb q e hq) ((tU_ne (hb q e hq)).trans hq)).2⟩
  clear k1 k2 k3 k4 k5 f0
  refine tw_ldcS C (List.mem_of_getElem? (i := 18) rfl) dL_dough_7 ?_
  refine tw_appS C 18 (lb 18) 5 (by decide) rfl (by decide +kernel) (by decide +kernel) (bL_lb _ (by decide)) h0 (Nat.le_of_ble_eq_true rfl) ⟨(Nat.le_of_ble_eq_true rfl), (Nat.le_of_ble_eq_true rfl)⟩ ⟨(Nat.le_of_ble_eq_true rfl), (Nat.le_of_ble_eq_true rfl)⟩ (Nat.le_of_ble_eq_true rfl) dL_dough_9 (fun M1 v1 cap1 h1 g => ?_)
  have p1 := kp_step p0 g
  clear g h0 p0
  refine tw_iload_n C 0 dL_dough_12 rfl rfl ?_
  refine tw_iconst C (1) dL_dough_13 rfl ?_
  refine tw_bipush C (15) dL_dough_14 rfl ?_
  refine tw_callS C (tGo_same C) (As := [iV x, iV 1, iV 15]) (tc_L_between _ _ _ _ _ x 1 15 (by decide) (by decide)) mt_L_between st_L_between wd859 rfl ⟨(Nat.le_of_ble_eq_true rfl), (Nat.le_of_ble_eq_true rfl)⟩ ⟨(Nat.le_of_ble_eq_true rfl), (Nat.le_of_ble_eq_true rfl)⟩ (rfl) (Nat.le_of_ble_eq_true rfl) dL_dough_16 ?_
  rintro _ MQ ⟨rfl, hQ⟩
  have hQ := hQ.symm
  subst hQ
  show TO X A _ _ 3 4020 19 _ (iV _ :: .ref b :: [])
  refine tw_appI C (x := bw x 1 15) (by have := (bw_le (x := x) (show 1 ≤ 15 by decide)).2; omega) h1 (Nat.le_of_ble_eq_true rfl) ⟨(Nat.le_of_ble_eq_true rfl), (Nat.le_of_ble_eq_true rfl)⟩ ⟨(Nat.le_of_ble_eq_true rfl), (Nat.le_of_ble_eq_true rfl)⟩ (Nat.le_of_ble_eq_true rfl) dL_dough_19 (fun M2 v2 cap2 h2 g => ?_)
  have p2 := kp_step p1 g
  clear g h1 p1
  refine tw_ldcS C (List.mem_of_getElem? (i := 19) rfl) dL_dough_22 ?_
  refine tw_appS C 19 (lb 19) 6 (by decide) rfl (by decide +kernel) (by decide +kernel) (bL_lb _ (by decide)) h2 (Nat.le_of_ble_eq_true rfl) ⟨(Nat.le_of_ble_eq_true rfl), (Nat.le_of_ble_eq_true rfl)⟩ ⟨(Nat.le_of_ble_eq_true rfl), (Nat.le_of_ble_eq_true rfl)⟩ (Nat.le_of_ble_eq_true rfl) dL_dough_24 (fun M3 v3 cap3 h3 g => ?_)
  have p3 := kp_step p2 g
  clear g h2 p2
  refine tw_iload_n C 0 dL_dough_27 rfl rfl ?_
  refine tw_iconst C (4) dL_dough_28 rfl ?_
  refine tw_ishr C dL_dough_29 ?_
  refine tw_iconst C (0) dL_dough_30 rfl ?_
  refine tw_bipush C (60) dL_dough_31 rfl ?_
  refine tw_callS C (tGo_same C) (As := [iV (zshr x 4), iV 0, iV 60]) (tc_L_between _ _ _ _ _ (zshr x 4) 0 60 (by decide) (by decide)) mt_L_between st_L_between wd859 rfl ⟨(Nat.le_of_ble_eq_true rfl), (Nat.le_of_ble_eq_true rfl)⟩ ⟨(Nat.le_of_ble_eq_true rfl), (Nat.le_of_ble_eq_true rfl)⟩ (rfl) (Nat.le_of_ble_eq_true rfl) dL_dough_33 ?_
  rintro _ MQ ⟨rfl, hQ⟩
  have hQ := hQ.symm
  subst hQ
  show TO X A _ _ 5 12020 36 _ (iV _ :: .ref b :: [])
  refine tw_appI C (x := bw (zshr x 4) 0 60) (by have := (bw_le (x := (zshr x 4)) (show 0 ≤ 60 by decide)).2; omega) h3 (Nat.le_of_ble_eq_true rfl) ⟨(Nat.le_of_ble_eq_true rfl), (Nat.le_of_ble_eq_true rfl)⟩ ⟨(Nat.le_of_ble_eq_true rfl), (Nat.le_of_ble_eq_true rfl)⟩ (Nat.le_of_ble_eq_true rfl) dL_dough_36 (fun M4 v4 cap4 h4 g => ?_)
  have p4 := kp_step p3 g
  clear g h3 p3
  refine tw_ldcS C (List.mem_of_getElem? (i := 20) rfl) dL_dough_39 ?_
  refine tw_appS C 20 (lb 20) 7 (by decide) rfl (by decide +kernel) (by decide +kernel) (bL_lb _ (by decide)) h4 (Nat.le_of_ble_eq_true rfl) ⟨(Nat.le_of_ble_eq_true rfl), (Nat.le_of_ble_eq_true rfl)⟩ ⟨(Nat.le_of_ble_eq_true rfl), (Nat.le_of_ble_eq_true rfl)⟩ (Nat.le_of_ble_eq_true rfl) dL_dough_41 (fun M5 v5 cap5 h5 g => ?_)
  have p5 := kp_step p4 g
  clear g h4 p4
  refine tw_iload_n C 0 dL_dough_44 rfl rfl ?_
  refine tw_bipush C (9) dL_dough_45 rfl ?_
  refine tw_ishr C dL_dough_47 ?_
  refine tw_iconst C (1) dL_dough_48 rfl ?_
  refine tw_bipush C (10) dL_dough_49 rfl ?_
  refine tw_callS C (tGo_same C) (As := [iV (zshr x 9), iV 1, iV 10]) (tc_L_between _ _ _ _ _ (zshr x 9) 1 10 (by decide) (by decide)) mt_L_between st_L_between wd859 rfl ⟨(Nat.le_of_ble_eq_true rfl), (Nat.le_of_ble_eq_true rfl)⟩ ⟨(Nat.le_of_ble_eq_true rfl), (Nat.le_of_ble_eq_true rfl)⟩ (rfl) (Nat.le_of_ble_eq_true rfl) dL_dough_51 ?_
  rintro _ MQ ⟨rfl, hQ⟩
  have hQ := hQ.symm
  subst hQ
  show TO X A _ _ 7 20020 54 _ (iV _ :: .ref b :: [])
  refine tw_appI C (x := bw (zshr x 9) 1 10) (by have := (bw_le (x := (zshr x 9)) (show 1 ≤ 10 by decide)).2; omega) h5 (Nat.le_of_ble_eq_true rfl) ⟨(Nat.le_of_ble_eq_true rfl), (Nat.le_of_ble_eq_true rfl)⟩ ⟨(Nat.le_of_ble_eq_true rfl), (Nat.le_of_ble_eq_true rfl)⟩ (Nat.le_of_ble_eq_true rfl) dL_dough_54 (fun M6 v6 cap6 h6 g => ?_)
  have p6 := kp_step p5 g
  clear g h5 p5
  refine tw_ldcS C (List.mem_of_getElem? (i := 21) rfl) dL_dough_57 ?_
  refine tw_appS C 21 (lb 21) 7 (by decide) rfl (by decide +kernel) (by decide +kernel) (bL_lb _ (by decide)) h6 (Nat.le_of_ble_eq_true rfl) ⟨(Nat.le_of_ble_eq_true rfl), (Nat.le_of_ble_eq_true rfl)⟩ ⟨(Nat.le_of_ble_eq_true rfl), (Nat.le_of_ble_eq_true rfl)⟩ (Nat.le_of_ble_eq_true rfl) dL_dough_59 (fun M7 v7 cap7 h7 g => ?_)
  have p7 := kp_step p6 g
  clear g h6 p6
  refine tw_iload_n C 0 dL_dough_62 rfl rfl ?_
  refine tw_bipush C (12) dL_dough_63 rfl ?_
  refine tw_ishr C dL_dough_65 ?_
  refine tw_iconst C (0) dL_dough_66 rfl ?_
  refine tw_bipush C (40) dL_dough_67 rfl ?_
  refine tw_callS C (tGo_same C) (As := [iV (zshr x 12), iV 0, iV 40]) (tc_L_between _ _ _ _ _ (zshr x 12) 0 40 (by decide) (by decide)) mt_L_between st_L_between wd859 rfl ⟨(Nat.le_of_ble_eq_true rfl), (Nat.le_of_ble_eq_true rfl)⟩ ⟨(Nat.le_of_ble_eq_true rfl), (Nat.le_of_ble_eq_true rfl)⟩ (rfl) (Nat.le_of_ble_eq_true rfl) dL_dough_69 ?_
  rintro _ MQ ⟨rfl, hQ⟩
  have hQ := hQ.symm
  subst hQ
  show TO X A _ _ 9 28020 72 _ (iV _ :: .ref b :: [])
  refine tw_appI C (x := bw (zshr x 12) 0 40) (by have := (bw_le (x := (zshr x 12)) (show 0 ≤ 40 by decide)).2; omega) h7 (Nat.le_of_ble_eq_true rfl) ⟨(Nat.le_of_ble_eq_true rfl), (Nat.le_of_ble_eq_true rfl)⟩ ⟨(Nat.le_of_ble_eq_true rfl), (Nat.le_of_ble_eq_true rfl)⟩ (Nat.le_of_ble_eq_true rfl) dL_dough_72 (fun M8 v8 cap8 h8 g => ?_)
  have p8 := kp_step p7 g
  clear g h7 p7
  refine tw_ldcS C (List.mem_of_getElem? (i := 22) rfl) dL_dough_75 ?_
  refine tw_appS C 22 (lb 22) 7 (by decide) rfl (by decide +kernel) (by decide +kernel) (bL_lb _ (by decide)) h8 (Nat.le_of_ble_eq_true rfl) ⟨(Nat.le_of_ble_eq_true rfl), (Nat.le_of_ble_eq_true rfl)⟩ ⟨(Nat.le_of_ble_eq_true rfl), (Nat.le_of_ble_eq_true rfl)⟩ (Nat.le_of_ble_eq_true rfl) dL_dough_77 (fun M9 v9 cap9 h9 g => ?_)
  have p9 := kp_step p8 g
  clear g h8 p8
  refine tw_iload_n C 0 dL_dough_80 rfl rfl ?_
  refine tw_bipush C (16) dL_dough_81 rfl ?_
  refine tw_ishr C dL_dough_83 ?_
  refine tw_iconst C (0) dL_dough_84 rfl ?_
  refine tw_bipush C (120) dL_dough_85 rfl ?_
  refine tw_callS C (tGo_same C) (As := [iV (zshr x 16), iV 0, iV 120]) (tc_L_between _ _ _ _ _ (zshr x 16) 0 120 (by decide) (by decide)) mt_L_between st_L_between wd859 rfl ⟨(Nat.le_of_ble_eq_true rfl), (Nat.le_of_ble_eq_true rfl)⟩ ⟨(Nat.le_of_ble_eq_true rfl), (Nat.le_of_ble_eq_true rfl)⟩ (rfl) (Nat.le_of_ble_eq_true rfl) dL_dough_87 ?_
  rintro _ MQ ⟨rfl, hQ⟩
  have hQ := hQ.symm
  subst hQ
  show TO X A _ _ 11 36020 90 _ (iV _ :: .ref b :: [])
  refine tw_appI C (x := bw (zshr x 16) 0 120) (by have := (bw_le (x := (zshr x 16)) (show 0 ≤ 120 by decide)).2; omega) h9 (Nat.le_of_ble_eq_true rfl) ⟨(Nat.le_of_ble_eq_true rfl), (Nat.le_of_ble_eq_true rfl)⟩ ⟨(Nat.le_of_ble_eq_true rfl), (Nat.le_of_ble_eq_true rfl)⟩ (Nat.le_of_ble_eq_true rfl) dL_dough_90 (fun M10 v10 cap10 h10 g => ?_)
  have p10 := kp_step p9 g
  clear g h9 p9
  refine tw_ldcS C (List.mem_of_getElem? (i := 23) rfl) dL_dough_93 ?_
  refine tw_appS C 23 (lb 23) 6 (by decide) rfl (by decide +kernel) (by decide +kernel) (bL_lb _ (by decide)) h10 (Nat.le_of_ble_eq_true rfl) ⟨(Nat.le_of_ble_eq_true rfl), (Nat.le_of_ble_eq_true rfl)⟩ ⟨(Nat.le_of_ble_eq_true rfl), (Nat.le_of_ble_eq_true rfl)⟩ (Nat.le_of_ble_eq_true rfl) dL_dough_95 (fun M11 v11 cap11 h11 g => ?_)
  have p11 := kp_step p10 g
  clear g h10 p10
  refine tw_iload_n C 0 dL_dough_98 rfl rfl ?_
  refine tw_bipush C (20) dL_dough_99 rfl ?_
  refine tw_ishr C dL_dough_101 ?_
  refine tw_bipush C (10) dL_dough_102 rfl ?_
  refine tw_bipush C (40) dL_dough_104 rfl ?_
  refine tw_callS C (tGo_same C) (As := [iV (zshr x 20), iV 10, iV 40]) (tc_L_between _ _ _ _ _ (zshr x 20) 10 40 (by decide) (by decide)) mt_L_between st_L_between wd859 rfl ⟨(Nat.le_of_ble_eq_true rfl), (Nat.le_of_ble_eq_true rfl)⟩ ⟨(Nat.le_of_ble_eq_true rfl), (Nat.le_of_ble_eq_true rfl)⟩ (rfl) (Nat.le_of_ble_eq_true rfl) dL_dough_106 ?_
  rintro _ MQ ⟨rfl, hQ⟩
  have hQ := hQ.symm
  subst hQ
  show TO X A _ _ 13 44020 109 _ (iV _ :: .ref b :: [])
  refine tw_appI C (x := bw (zshr x 20) 10 40) (by have := (bw_le (x := (zshr x 20)) (show 10 ≤ 40 by decide)).2; omega) h11 (Nat.le_of_ble_eq_true rfl) ⟨(Nat.le_of_ble_eq_true rfl), (Nat.le_of_ble_eq_true rfl)⟩ ⟨(Nat.le_of_ble_eq_true rfl), (Nat.le_of_ble_eq_true rfl)⟩ (Nat.le_of_ble_eq_true rfl) dL_dough_109 (fun M12 v12 cap12 h12 g => ?_)
  have p12 := kp_step p11 g
  clear g h11 p11
  refine tw_ldcS C (List.mem_of_getElem? (i := 5) rfl) dL_dough_112 ?_
  refine tw_appS C 5 (lb 5) 6 (by decide) rfl (by decide +kernel) (by decide +kernel) (bL_lb _ (by decide)) h12 (Nat.le_of_ble_eq_true rfl) ⟨(Nat.le_of_ble_eq_true rfl), (Nat.le_of_ble_eq_true rfl)⟩ ⟨(Nat.le_of_ble_eq_true rfl), (Nat.le_of_ble_eq_true rfl)⟩ (Nat.le_of_ble_eq_true rfl) dL_dough_114 (fun M13 v13 cap13 h13 g => ?_)
  have p13 := kp_step p12 g
  clear g h12 p12
  refine tw_iload_n C 0 dL_dough_117 rfl rfl ?_
  refine tw_iconst C (5) dL_dough_118 rfl ?_
  refine tw_ishr C dL_dough_119 ?_
  refine tw_sipush C (180) dL_dough_120 rfl ?_
  refine tw_sipush C (240) dL_dough_123 rfl ?_
  refine tw_callS C (tGo_same C) (As := [iV (zshr x 5), iV 180, iV 240]) (tc_L_between _ _ _ _ _ (zshr x 5) 180 240 (by decide) (by decide)) mt_L_between st_L_between wd859 rfl ⟨(Nat.le_of_ble_eq_true rfl), (Nat.le_of_ble_eq_true rfl)⟩ ⟨(Nat.le_of_ble_eq_true rfl), (Nat.le_of_ble_eq_true rfl)⟩ (rfl) (Nat.le_of_ble_eq_true rfl) dL_dough_126 ?_
  rintro _ MQ ⟨rfl, hQ⟩
  have hQ := hQ.symm
  subst hQ
  show TO X A _ _ 15 52020 129 _ (iV _ :: .ref b :: [])
  refine tw_appI C (x := bw (zshr x 5) 180 240) (by have := (bw_le (x := (zshr x 5)) (show 180 ≤ 240 by decide)).2; omega) h13 (Nat.le_of_ble_eq_true rfl) ⟨(Nat.le_of_ble_eq_true rfl), (Nat.le_of_ble_eq_true rfl)⟩ ⟨(Nat.le_of_ble_eq_true rfl), (Nat.le_of_ble_eq_true rfl)⟩ (Nat.le_of_ble_eq_true rfl) dL_dough_129 (fun M14 v14 cap14 h14 g => ?_)
  have p14 := kp_step p13 g
  clear g h13 p13
  refine tw_ldcS C (List.mem_of_getElem? (i := 24) rfl) dL_dough_132 ?_
  refine tw_appS C 24 (lb 24) 7 (by decide) rfl (by decide +kernel) (by decide +kernel) (bL_lb _ (by decide)) h14 (Nat.le_of_ble_eq_true rfl) ⟨(Nat.le_of_ble_eq_true rfl), (Nat.le_of_ble_eq_true rfl)⟩ ⟨(Nat.le_of_ble_eq_true rfl), (Nat.le_of_ble_eq_true rfl)⟩ (Nat.le_of_ble_eq_true rfl) dL_dough_134 (fun M15 v15 cap15 h15 g => ?_)
  have p15 := kp_step p14 g
  clear g h14 p14
  refine tw_iload_n C 0 dL_dough_137 rfl rfl ?_
  refine tw_bipush C (14) dL_dough_138 rfl ?_
  refine tw_ishr C dL_dough_140 ?_
  refine tw_iconst C (5) dL_dough_141 rfl ?_
  refine tw_bipush C (30) dL_dough_142 rfl ?_
  refine tw_callS C (tGo_same C) (As := [iV (zshr x 14), iV 5, iV 30]) (tc_L_between _ _ _ _ _ (zshr x 14) 5 30 (by decide) (by decide)) mt_L_between st_L_between wd859 rfl ⟨(Nat.le_of_ble_eq_true rfl), (Nat.le_of_ble_eq_true rfl)⟩ ⟨(Nat.le_of_ble_eq_true rfl), (Nat.le_of_ble_eq_true rfl)⟩ (rfl) (Nat.le_of_ble_eq_true rfl) dL_dough_144 ?_
  rintro _ MQ ⟨rfl, hQ⟩
  have hQ := hQ.symm
  subst hQ
  show TO X A _ _ 17 60020 147 _ (iV _ :: .ref b :: [])
  refine tw_appI C (x := bw (zshr x 14) 5 30) (by have := (bw_le (x := (zshr x 14)) (show 5 ≤ 30 by decide)).2; omega) h15 (Nat.le_of_ble_eq_true rfl) ⟨(Nat.le_of_ble_eq_true rfl), (Nat.le_of_ble_eq_true rfl)⟩ ⟨(Nat.le_of_ble_eq_true rfl), (Nat.le_of_ble_eq_true rfl)⟩ (Nat.le_of_ble_eq_true rfl) dL_dough_147 (fun M16 v16 cap16 h16 g => ?_)
  have p16 := kp_step p15 g
  clear g h15 p15
  refine tw_ldcS C (List.mem_of_getElem? (i := 25) rfl) dL_dough_150 ?_
  refine tw_appS C 25 (lb 25) 6 (by decide) rfl (by decide +kernel) (by decide +kernel) (bL_lb _ (by decide)) h16 (Nat.le_of_ble_eq_true rfl) ⟨(Nat.le_of_ble_eq_true rfl), (Nat.le_of_ble_eq_true rfl)⟩ ⟨(Nat.le_of_ble_eq_true rfl), (Nat.le_of_ble_eq_true rfl)⟩ (Nat.le_of_ble_eq_true rfl) dL_dough_152 (fun M17 v17 cap17 h17 g => ?_)
  have p17 := kp_step p16 g
  clear g h16 p16
  refine tw_iload_n C 0 dL_dough_155 rfl rfl ?_
  refine tw_bipush C (7) dL_dough_156 rfl ?_
  refine tw_ishr C dL_dough_158 ?_
  refine tw_bipush C (60) dL_dough_159 rfl ?_
  refine tw_sipush C (400) dL_dough_161 rfl ?_
  refine tw_callS C (tGo_same C) (As := [iV (zshr x 7), iV 60, iV 400]) (tc_L_between _ _ _ _ _ (zshr x 7) 60 400 (by decide) (by decide)) mt_L_between st_L_between wd859 rfl ⟨(Nat.le_of_ble_eq_true rfl), (Nat.le_of_ble_eq_true rfl)⟩ ⟨(Nat.le_of_ble_eq_true rfl), (Nat.le_of_ble_eq_true rfl)⟩ (rfl) (Nat.le_of_ble_eq_true rfl) dL_dough_164 ?_
  rintro _ MQ ⟨rfl, hQ⟩
  have hQ := hQ.symm
  subst hQ
  show TO X A _ _ 19 68020 167 _ (iV _ :: .ref b :: [])
  refine tw_appI C (x := bw (zshr x 7) 60 400) (by have := (bw_le (x := (zshr x 7)) (show 60 ≤ 400 by decide)).2; omega) h17 (Nat.le_of_ble_eq_true rfl) ⟨(Nat.le_of_ble_eq_true rfl), (Nat.le_of_ble_eq_true rfl)⟩ ⟨(Nat.le_of_ble_eq_true rfl), (Nat.le_of_ble_eq_true rfl)⟩ (Nat.le_of_ble_eq_true rfl) dL_dough_167 (fun M18 v18 cap18 h18 g => ?_)
  have p18 := kp_step p17 g
  clear g h17 p17
  refine tw_ldcS C (List.mem_of_getElem? (i := 26) rfl) dL_dough_170 ?_
  refine tw_appS C 26 (lb 26) 7 (by decide) rfl (by decide +kernel) (by decide +kernel) (bL_lb _ (by decide)) h18 (Nat.le_of_ble_eq_true rfl) ⟨(Nat.le_of_ble_eq_true rfl), (Nat.le_of_ble_eq_true rfl)⟩ ⟨(Nat.le_of_ble_eq_true rfl), (Nat.le_of_ble_eq_true rfl)⟩ (Nat.le_of_ble_eq_true rfl) dL_dough_172 (fun M19 v19 cap19 h19 g => ?_)
  have p19 := kp_step p18 g
  clear g h18 p18
  refine tw_iload_n C 0 dL_dough_175 rfl rfl ?_
  refine tw_bipush C (11) dL_dough_176 rfl ?_
  refine tw_ishr C dL_dough_178 ?_
  refine tw_iconst C (0) dL_dough_179 rfl ?_
  refine tw_sipush C (200) dL_dough_180 rfl ?_
  refine tw_callS C (tGo_same C) (As := [iV (zshr x 11), iV 0, iV 200]) (tc_L_between _ _ _ _ _ (zshr x 11) 0 200 (by decide) (by decide)) mt_L_between st_L_between wd859 rfl ⟨(Nat.le_of_ble_eq_true rfl), (Nat.le_of_ble_eq_true rfl)⟩ ⟨(Nat.le_of_ble_eq_true rfl), (Nat.le_of_ble_eq_true rfl)⟩ (rfl) (Nat.le_of_ble_eq_true rfl) dL_dough_183 ?_
  rintro _ MQ ⟨rfl, hQ⟩
  have hQ := hQ.symm
  subst hQ
  show TO X A _ _ 21 76020 186 _ (iV _ :: .ref b :: [])
  refine tw_appI C (x := bw (zshr x 11) 0 200) (by have := (bw_le (x := (zshr x 11)) (show 0 ≤ 200 by decide)).2; omega) h19 (Nat.le_of_ble_eq_true rfl) ⟨(Nat.le_of_ble_eq_true rfl), (Nat.le_of_ble_eq_true rfl)⟩ ⟨(Nat.le_of_ble_eq_true rfl), (Nat.le_of_ble_eq_true rfl)⟩ (Nat.le_of_ble_eq_true rfl) dL_dough_186 (fun M20 v20 cap20 h20 g => ?_)
  have p20 := kp_step p19 g
  clear g h19 p19
  obtain ⟨f, j1, j2, j3, j4, j5, j6⟩ := h20
  refine tw_callV C (tGo_same C) (As := []) (tc_J4_toString_0e30d _ _ _ _ _ b v20 _ cap20 f j1 j4 j2 j3) mt_J4_toString_0e30d vr_J4_toString_0e30d wd1263 (tRc_M C cls_J4 j1.1) rfl ⟨(Nat.le_of_ble_eq_true rfl), (Nat.le_of_ble_eq_true rfl)⟩ (by show 22 + 2 ≤ 24 ∧ 80020 + 4004 ≤ 84024; omega) rfl (Nat.le_of_ble_eq_true rfl) dL_dough_189 ?_
  rintro _ MQ ⟨a, w, f2, rfl, i1, i2, i3, i4, i5⟩
  show TO X A _ _ 24 84024 192 _ (.ref a :: [])
  exact tw_aret C ⟨a, w, rfl, ⟨i1, ⟨f2, i2, i3, fun k hk => (i4 k hk).trans (j5 k hk)⟩, j6⟩, fun q e hq => i5 q e (p20 q e hq).1⟩ rfl (Or.inl ⟨_, rfl⟩) ⟨Nat.le_refl _, Nat.le_refl _⟩ dL_dough_192
