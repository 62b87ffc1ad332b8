/-! THE LAW'S text: letters of a String fed to the class -/
theorem mt_L_text : xMth yL_text cL_text 5 none 2 := ⟨wd868, wd48, ⟨by decide, by decide, rfl⟩⟩
theorem st_L_text : Cond.static yL_text ∈ GW := wd867
theorem mt_L_parsed : xMth yL_parsed cL_parsed 2 (some .int) 2 := ⟨wd865, wd48, ⟨by decide, by decide, rfl⟩⟩
theorem st_L_parsed : Cond.static yL_parsed ∈ GW := wd864
theorem wdAI : Cond.arrayClass .int ∈ GW := gwt1 18 (by decide +kernel) rfl
def ch (u : List Int32) (j : Nat) : Nat := if j < u.length then (u.getD j 0).toInt.toNat else 32
/-- letters of seven bits -/
def aL (u : List Int32) : Prop := ∀ k, k < u.length → 0 ≤ (u.getD k 0).toInt ∧ (u.getD k 0).toInt < 128
theorem ch_lt {u : List Int32} (h : aL u) (j : Nat) : ch u j < 128 := by
  unfold ch
  split
  · next c => have := h j c; omega
  · decide
theorem wA_tU {E : xE} {σ : xS} {N : tMp} {q : Nat} {e : va_E} (h : ¬ xA E q) : tU (wA E σ N) q e = wA E σ (tU N q e) := by
  funext a
  by_cases c : a = q
  · subst c
    rw [tU_eq, wA_N h, tU_eq]
  · rw [tU_ne c]
    by_cases d : xA E a
    · exact Eq.trans (if_pos d) (Eq.symm (if_pos d))
    · rw [wA_N d, wA_N d, tU_ne c]
theorem wA_out {E : xE} {σ : xS} {N : tMp} {q : Nat} (h : ∀ b f, wA E σ N b = some f → b ≠ q) : ¬ xA E q := fun c => h q _ (if_pos c) rfl
theorem byW_bd1 (p : Int) (k : Nat) : -128 ≤ byW p k ∧ byW p k ≤ 127 := by
  unfold byW zb
  rw [vp_nar_byte, Int8.toInt_toInt32]
  have h1 := Int8.le_toInt (Int32.ofInt (zi2b (zshr p (24 - 8 * (k : Int))))).toInt8
  have h2 := Int8.toInt_lt (Int32.ofInt (zi2b (zshr p (24 - 8 * (k : Int))))).toInt8
  omega
/-- what the class holds behind m letters -/
def SP (u : List Int32) (σ0 σ : xS) (m : Nat) : Prop := σ 0 1 = (m : Int) ∧ (∀ j, j < m → σ 1 j = (ch u j : Int)) ∧ (∀ j, -128 ≤ σ 1 j ∧ σ 1 j ≤ 127) ∧ ∀ a j, a ≠ 1 → ¬ (a = 0 ∧ j = 1) → σ a j = σ0 a j
theorem tx_inner {X : xX} {A : Nat → Prop} {ss : tSs} {Q : State → Prop} (C : tCx X A ss cL_text "BakeryNightLaw" none { frames := 4, cells := 30, slots := 150, locals := 180 } 5) {a w : Nat} {g : Nat → Int32} {u : List Int32} (hS : .inl (a, w, u.length, g) ∈ ss) (hgu : ∀ k, k < u.length → g k = u.getD k 0) (hu : aL u) (hm : u.length ≤ 460) {σ : xS} {q at_ nk nz : Nat} (hqx : ¬ xA (xXE X) q) (hat : at_ < u.length) (h1 : nk ≤ 30) (h2 : nz ≤ 150) (kk : ∀ vf : Nat → Int32, (∀ k, k < 5 → vf k = Int32.ofNat (wv (fun j => ch u (at_ + j)) 20 k)) → TO X A Q (wA (xXE X) σ (tU tN q (.inl ((xXE X).2.1.1 0, 5, .inl vf)))) nk nz 74 [(0, .ref (xqa (xXE X).2.2 0)), (1, .ref a), (2, iV (at_ : Int)), (3, .ref q)] []) : ∀ d i, i + d = 20 → ∀ vf : Nat → Int32, (∀ k, k < 5 → vf k = Int32.ofNat (wv (fun j => ch u (at_ + j)) i k)) → TO X A Q (wA (xXE X) σ (tU tN q (.inl ((xXE X).2.1.1 0, 5, .inl vf)))) nk nz 17 [(0, .ref (xqa (xXE X).2.2 0)), (1, .ref a), (2, iV (at_ : Int)), (3, .ref q), (4, iV (i : Int))] [] := by
  have hs : Str a w u.length g A (xXs X) (xXs X).heap := C.2.2.2.2.2.2.2.2.2.2.2.2.2.2.2 _ hS
  intro d
  induction d with
  | zero =>
    intro i hi vf hv
    obtain rfl : i = 20 := by omega
    refine tw_iload C 4 dL_text_17 rfl ?_
    refine tw_bipush C (20) dL_text_19 rfl ?_
    refine tw_icmp_ge C 74 (x' := ((20 : Nat) : Int)) (y' := 20) (zN 20 (by omega)) (zI_eq (by decide) (by decide)) dL_text_21 rfl (fun _ => ?_) (fun hc => absurd (by decide) hc)
    exact tw_pick [0, 1, 2, 3] rfl (kk vf hv)
  | succ d ih =>
    intro i hi vf hv
    have hq : (wA (xXE X) σ (tU tN q (.inl ((xXE X).2.1.1 0, 5, .inl vf)))) q = some (.inl ((xXE X).2.1.1 0, 5, .inl vf)) := (wA_N hqx).trans tU_eq
    refine tw_iload C 4 dL_text_17 rfl ?_
    refine tw_bipush C (20) dL_text_19 rfl ?_
    refine tw_icmp_ge C 74 (x' := (i : Int)) (y' := 20) (zN i (by omega)) (zI_eq (by decide) (by decide)) dL_text_21 rfl (fun hc => absurd hc (by omega)) (fun _ => ?_)
    refine tw_aload_n C 3 dL_text_24 rfl rfl ?_
    refine tw_iload C 4 dL_text_25 rfl ?_
    refine tw_iconst C (4) dL_text_27 rfl ?_
    refine tw_idiv C (x' := (i : Int)) (y' := 4) (zN i (by omega)) (zI_eq (by decide) (by decide)) (by decide) dL_text_28 ?_
    rw [show (i : Int).tdiv 4 = ((i / 4 : Nat) : Int) from rfl]
    refine tw_dup2 C dL_text_29 rfl rfl ?_
    refine tw_ild C hq (i' := ((i / 4 : Nat) : Int)) (zN _ (by omega)) (by omega) (by omega) dL_text_30 ?_
    refine tw_iload_n C 2 dL_text_31 rfl rfl ?_
    refine tw_iload C 4 dL_text_32 rfl ?_
    refine tw_iadd C dL_text_34 ?_
    refine tw_aload_n C 1 dL_text_35 rfl rfl ?_
    refine tw_callV C (tGo_same C) (As := []) (tc_J0_length_8abf5 _ _ _ _ _ a w u.length g hS) mt_J0_length_8abf5 vr_J0_length_8abf5 wd869 (tRc_S C hs) rfl ⟨(Nat.le_of_ble_eq_true rfl), (Nat.le_of_ble_eq_true rfl)⟩ (by show nk + 0 ≤ 30 ∧ nz + 0 ≤ 150; omega) rfl (Nat.le_of_ble_eq_true rfl) dL_text_36 ?_
    rintro _ MQ ⟨rfl, hQ⟩
    have hQ := hQ.symm
    subst hQ
    show TO X A _ _ nk nz 39 _ (iV _ :: iV _ :: iV _ :: iV _ :: .ref q :: [])
    suffices hj : TO X A Q (wA (xXE X) σ (tU tN q (.inl ((xXE X).2.1.1 0, 5, .inl vf)))) nk nz 55 [(0, .ref (xqa (xXE X).2.2 0)), (1, .ref a), (2, iV (at_ : Int)), (3, .ref q), (4, iV (i : Int))] (iV (ch u (at_ + i) : Int) :: iV (vf (i / 4)).toInt :: iV ((i / 4 : Nat) : Int) :: .ref q :: []) by
      refine tw_icmp_ge C 53 (x' := ((at_ + i : Nat) : Int)) (y' := (u.length : Int)) (zN (at_ + i) (by omega)) (zN _ (by omega)) dL_text_39 rfl (fun hc => ?_) (fun hc => ?_)
      · refine tw_bipush C (32) dL_text_53 rfl ?_
        rw [show ch u (at_ + i) = 32 from if_neg (by omega)] at hj
        exact hj
      · skip
        refine tw_aload_n C 1 dL_text_42 rfl rfl ?_
        refine tw_iload_n C 2 dL_text_43 rfl rfl ?_
        refine tw_iload C 4 dL_text_44 rfl ?_
        refine tw_iadd C dL_text_46 ?_
        refine tw_callV C (tGo_same C) (As := [iV ((at_ + i : Nat) : Int)]) (tc_J0_charAt_5068e _ _ _ _ _ a w u.length g hS (at_ + i) (ch u (at_ + i)) (by omega) (by omega) (by rw [hgu _ (by omega)]; unfold ch; rw [if_pos (by omega)]; exact (Int.toNat_of_nonneg (hu _ (by omega)).1).symm) (ch_lt hu _)) mt_J0_charAt_5068e vr_J0_charAt_5068e wd879 (tRc_S C hs) rfl ⟨(Nat.le_of_ble_eq_true rfl), (Nat.le_of_ble_eq_true rfl)⟩ (by show nk + 0 ≤ 30 ∧ nz + 0 ≤ 150; omega) rfl (Nat.le_of_ble_eq_true rfl) dL_text_47 ?_
        rintro _ MQ ⟨rfl, hQ⟩
        have hQ := hQ.symm
        subst hQ
        show TO X A _ _ nk nz 50 _ (iV _ :: iV _ :: iV _ :: .ref q :: [])
        refine tw_goto C 55 dL_text_50 rfl ?_
        exact hj
    refine tw_bipush C (24) dL_text_55 rfl ?_
    refine tw_bipush C (8) dL_text_57 rfl ?_
    refine tw_iload C 4 dL_text_59 rfl ?_
    refine tw_iconst C (4) dL_text_61 rfl ?_
    refine tw_irem C (x' := (i : Int)) (y' := 4) (zN i (by omega)) (zI_eq (by decide) (by decide)) (by decide) dL_text_62 ?_
    rw [show (i : Int) - (i : Int).tdiv 4 * 4 = ((i % 4 : Nat) : Int) by rw [show (i : Int).tdiv 4 = ((i / 4 : Nat) : Int) from rfl]; omega]
    refine tw_imul C dL_text_63 ?_
    refine tw_isub C dL_text_64 ?_
    rw [show (24 : Int) - 8 * ((i % 4 : Nat) : Int) = ((24 - 8 * (i % 4) : Nat) : Int) by omega]
    refine tw_ishl C dL_text_65 ?_
    rw [zshl_N (ch_lt hu _) (by omega)]
    refine tw_ior C dL_text_66 ?_
    refine tw_ist C hq (i' := ((i / 4 : Nat) : Int)) (zN _ (by omega)) (by omega) (by omega) dL_text_67 ?_
    rw [wA_tU hqx, tU_tU]
    refine tw_iinc C 4 _ dL_text_68 rfl rfl (by decide) rfl ?_
    refine tw_goto C 17 dL_text_71 rfl ?_
    refine tw_pick [1, 2, 3, 4, 0] rfl ?_
    refine ih (i + 1) (by omega) _ (fun k hk => ?_)
    unfold wv
    unfold upd
    by_cases c : i / 4 = k
    · rw [if_pos c, if_pos (by rw [← c]; rfl)]
      have e1 : (vf (i / 4)).toInt = ((wv (fun j => ch u (at_ + j)) i (i / 4) : Nat) : Int) := by rw [hv _ (by omega), ofN_toInt (wv_lt (fun j => ch_lt hu _) _ _)]
      rw [e1, c]
      refine zor_N (wv_lt (fun j => ch_lt hu _) _ _) ?_
      have h3 : 2 ^ (24 - 8 * (i % 4)) ≤ 2 ^ 24 := Nat.pow_le_pow_right (by decide) (by omega)
      calc ch u (at_ + i) * 2 ^ (24 - 8 * (i % 4)) ≤ 127 * 2 ^ 24 := Nat.mul_le_mul (by have := ch_lt hu (at_ + i); omega) h3
        _ < 2147483648 := by decide
    · rw [if_neg c, if_neg (by intro e; exact c e.symm)]
      exact hv k hk
theorem tx_outer {X : xX} {A : Nat → Prop} {ss : tSs} {Q : State → Prop} (C : tCx X A ss cL_text "BakeryNightLaw" none { frames := 4, cells := 30, slots := 150, locals := 180 } 5) {a w : Nat} {g : Nat → Int32} {u : List Int32} (hS : .inl (a, w, u.length, g) ∈ ss) (hgu : ∀ k, k < u.length → g k = u.getD k 0) (hu : aL u) (hm : u.length ≤ 460) {σ0 : xS} (hfl : (xXE X).2.1.2.2 9 0 ≠ 0) (ham : ∀ U H, (xXE X).2.1.2.1 U H) (hA : ∀ q, xA (xXE X) q → A q) (kk : ∀ σ at_ nk nz, nk ≤ 30 → nz ≤ 150 → u.length ≤ at_ → at_ ≤ 480 → SP u σ0 σ at_ → TO X A Q (wA (xXE X) σ tN) nk nz 100 [(0, .ref (xqa (xXE X).2.2 0)), (1, .ref a), (2, iV (at_ : Int))] []) : ∀ d at_ σ nk nz, u.length ≤ at_ + 20 * d → at_ ≤ 480 → nk + d ≤ 30 → nz + 5 * d ≤ 150 → SP u σ0 σ at_ → TO X A Q (wA (xXE X) σ tN) nk nz 2 [(0, .ref (xqa (xXE X).2.2 0)), (1, .ref a), (2, iV (at_ : Int))] [] := by
  have hs : Str a w u.length g A (xXs X) (xXs X).heap := C.2.2.2.2.2.2.2.2.2.2.2.2.2.2.2 _ hS
  intro d
  induction d with
  | zero =>
    intro at_ σ nk nz h1 h2 h3 h4 hSP
    refine tw_iload_n C 2 dL_text_2 rfl rfl ?_
    refine tw_aload_n C 1 dL_text_3 rfl rfl ?_
    refine tw_callV C (tGo_same C) (As := []) (tc_J0_length_8abf5 _ _ _ _ _ a w u.length g hS) mt_J0_length_8abf5 vr_J0_length_8abf5 wd869 (tRc_S C hs) rfl ⟨(Nat.le_of_ble_eq_true rfl), (Nat.le_of_ble_eq_true rfl)⟩ (by show nk + 0 ≤ 30 ∧ nz + 0 ≤ 150; omega) rfl (Nat.le_of_ble_eq_true rfl) dL_text_4 ?_
    rintro _ MQ ⟨rfl, hQ⟩
    have hQ := hQ.symm
    subst hQ
    show TO X A _ _ nk nz 7 _ (iV _ :: iV _ :: [])
    refine tw_icmp_ge C 100 (x' := (at_ : Int)) (y' := (u.length : Int)) (zN at_ (by omega)) (zN _ (by omega)) dL_text_7 rfl (fun hc => ?_) (fun hc => ?_)
    · exact kk σ at_ nk nz (by omega) (by omega) (by omega) h2 hSP
    · omega
  | succ d ih =>
    intro at_ σ nk nz h1 h2 h3 h4 hSP
    refine tw_iload_n C 2 dL_text_2 rfl rfl ?_
    refine tw_aload_n C 1 dL_text_3 rfl rfl ?_
    refine tw_callV C (tGo_same C) (As := []) (tc_J0_length_8abf5 _ _ _ _ _ a w u.length g hS) mt_J0_length_8abf5 vr_J0_length_8abf5 wd869 (tRc_S C hs) rfl ⟨(Nat.le_of_ble_eq_true rfl), (Nat.le_of_ble_eq_true rfl)⟩ (by show nk + 0 ≤ 30 ∧ nz + 0 ≤ 150; omega) rfl (Nat.le_of_ble_eq_true rfl) dL_text_4 ?_
    rintro _ MQ ⟨rfl, hQ⟩
    have hQ := hQ.symm
    subst hQ
    show TO X A _ _ nk nz 7 _ (iV _ :: iV _ :: [])
    refine tw_icmp_ge C 100 (x' := (at_ : Int)) (y' := (u.length : Int)) (zN at_ (by omega)) (zN _ (by omega)) dL_text_7 rfl (fun hc => ?_) (fun hc => ?_)
    · exact kk σ at_ nk nz (by omega) (by omega) (by omega) h2 hSP
    refine tw_iconst C (5) dL_text_10 rfl ?_
    refine tw_newI C wdAI (n := 5) rfl (by omega) dL_text_11 (by show nk + 1 ≤ 30; omega) (by show nz + 5 ≤ 150; omega) (fun q hq0 => ?_)
    have hqx := wA_out hq0
    rw [wA_tU hqx]
    refine tw_astore_n C dL_text_13 rfl (by decide) rfl ?_
    refine tw_iconst C (0) dL_text_14 rfl ?_
    refine tw_istore C dL_text_15 (by decide) rfl ?_
    refine tw_pick [2, 3, 4, 1, 0] rfl ?_
    refine tx_inner C hS hgu hu hm hqx (by omega) (by omega) (by omega) (fun vf hv => ?_) 20 0 rfl (fun _ => 0) (fun k hk => rfl)
    have hq : (wA (xXE X) σ (tU tN q (.inl ((xXE X).2.1.1 0, 5, .inl vf)))) q = some (.inl ((xXE X).2.1.1 0, 5, .inl vf)) := (wA_N hqx).trans tU_eq
    obtain ⟨x, hx, k1, k2, k3⟩ := c_feed (n := 4000000) (p1 := (vf 0).toInt) (p2 := (vf 1).toInt) (p3 := (vf 2).toInt) (p4 := (vf 3).toInt) (p5 := (vf 4).toInt) hSP.1 (by omega) (Nat.le_refl _)
    have hp : ∀ k, k < 5 → (vf k).toInt = ((wv (fun j => ch u (at_ + j)) 20 k : Nat) : Int) := fun k hk => by rw [hv k hk, ofN_toInt (wv_lt (fun j => ch_lt hu _) _ _)]
    refine tw_aload_n C 0 dL_text_74 rfl rfl ?_
    refine tw_aload_n C 3 dL_text_75 rfl rfl ?_
    refine tw_iconst C (0) dL_text_76 rfl ?_
    refine tw_ild C hq (i' := 0) (zI_eq (by decide) (by decide)) (by decide) (by decide) dL_text_77 ?_
    refine tw_aload_n C 3 dL_text_78 rfl rfl ?_
    refine tw_iconst C (1) dL_text_79 rfl ?_
    refine tw_ild C hq (i' := 1) (zI_eq (by decide) (by decide)) (by decide) (by decide) dL_text_80 ?_
    refine tw_aload_n C 3 dL_text_81 rfl rfl ?_
    refine tw_iconst C (2) dL_text_82 rfl ?_
    refine tw_ild C hq (i' := 2) (zI_eq (by decide) (by decide)) (by decide) (by decide) dL_text_83 ?_
    refine tw_aload_n C 3 dL_text_84 rfl rfl ?_
    refine tw_iconst C (3) dL_text_85 rfl ?_
    refine tw_ild C hq (i' := 3) (zI_eq (by decide) (by decide)) (by decide) (by decide) dL_text_86 ?_
    refine tw_aload_n C 3 dL_text_87 rfl rfl ?_
    refine tw_iconst C (4) dL_text_88 rfl ?_
    refine tw_ild C hq (i' := 4) (zI_eq (by decide) (by decide)) (by decide) (by decide) dL_text_89 ?_
    refine tw_callX C (As := [iV (vf 0).toInt, iV (vf 1).toInt, iV (vf 2).toInt, iV (vf 3).toInt, iV (vf 4).toInt]) (ct_X12_feed _ _ 4000000 (vf 0).toInt (vf 1).toInt (vf 2).toInt (vf 3).toInt (vf 4).toInt σ) (r := (some (iV x.1), x.2)) (by rw [hx]; rfl) hfl ham hA (fun b e h => ?_) mt_X12_feed vr_X12_feed rfl wd917 rfl ⟨rfl, rfl, Nat.le_of_ble_eq_true rfl, Nat.le_of_ble_eq_true rfl⟩ (by show nk + 1 ≤ 30 ∧ nz + 5 ≤ 150; omega) rfl (Nat.le_of_ble_eq_true rfl) dL_text_90 ?_
    · by_cases c : b = q
      · rw [c]
        exact hqx
      · rw [tU_ne c] at h
        cases h
    show TO X A Q _ (nk + 1) (nz + 5) 93 _ (iV _ :: [])
    refine tw_pop C dL_text_93 rfl ?_
    refine tw_iinc C 2 _ dL_text_94 rfl rfl (by decide) rfl ?_
    refine tw_goto C 2 dL_text_97 rfl ?_
    refine tw_pick [1, 2, 0] rfl ?_
    refine tw_sub (N := wA (xXE X) x.2 tN) (fun b e h => ?_) ?_
    · by_cases c : xA (xXE X) b
      · exact Eq.trans (if_pos c) (Eq.trans (Eq.symm (if_pos c)) h)
      · rw [wA_N c] at h
        cases h
    · refine ih (at_ + 20) x.2 (nk + 1) (nz + 5) (by omega) (by omega) (by omega) (by omega) ⟨k1, fun j hj => ?_, fun j => ?_, fun a j c1 c2 => (k3 a j c1 c2).trans (hSP.2.2.2 a j c1 c2)⟩
      · rw [k2 j]
        by_cases c : at_ ≤ j
        · rw [if_pos ⟨c, hj⟩, hp 0 (by decide), hp 1 (by decide), hp 2 (by decide), hp 3 (by decide), hp 4 (by decide), fdB_wv (fun j => ch_lt hu _) _ (by omega)]
          show ((ch u (at_ + (j - at_)) : Nat) : Int) = _
          rw [show at_ + (j - at_) = j by omega]
        · rw [if_neg (fun q => c q.1)]
          exact hSP.2.1 j (by omega)
      · rw [k2 j]
        split
        · exact byW_bd1 _ _
        · exact hSP.2.2.1 j
theorem tc_L_text (l : Launch) (E : xE) (A : Nat → Prop) (ss : tSs) (σ0 : xS) (hfl : E.2.1.2.2 9 0 ≠ 0) (ham : ∀ U H, E.2.1.2.1 U H) (hA : ∀ q, xA E q → A q) (a w : Nat) (g : Nat → Int32) (u : List Int32) (hS : .inl (a, w, u.length, g) ∈ ss) (hgu : ∀ k, k < u.length → g k = u.getD k 0) (hu : aL u) (hm : u.length ≤ 460) (h0 : SP u σ0 σ0 0) : tMet l E yL_text cL_text 5 none { frames := 4, cells := 30, slots := 150, locals := 180 } [.ref (xqa E.2.2 0), .ref a] A ss (wA E σ0 tN) (fun r M2 => r = none ∧ ∃ σ, M2 = wA E σ tN ∧ SP u σ0 σ u.length) := by
  refine tMet.of (by decide) (Nat.le_of_ble_eq_true rfl) fun X hE hl hnm C => ?_
  subst hE
  have hs : Str a w u.length g A (xXs X) (xXs X).heap := C.2.2.2.2.2.2.2.2.2.2.2.2.2.2.2 _ hS
  refine tw_iconst C (0) dL_text_0 rfl ?_
  refine tw_istore_n C dL_text_1 rfl (by decide) rfl ?_
  refine tw_pick [1, 2, 0] rfl ?_
  refine tx_outer C hS hgu hu hm hfl ham hA (fun σ at_ nk nz h1 h2 h3 h4 hSP => ?_) 23 0 σ0 0 0 (by omega) (by omega) (by omega) (by omega) h0
  refine tw_aload_n C 0 dL_text_100 rfl rfl ?_
  refine tw_aload_n C 1 dL_text_101 rfl rfl ?_
  refine tw_callV C (tGo_same C) (As := []) (tc_J0_length_8abf5 _ _ _ _ _ a w u.length g hS) mt_J0_length_8abf5 vr_J0_length_8abf5 wd869 (tRc_S C hs) rfl ⟨(Nat.le_of_ble_eq_true rfl), (Nat.le_of_ble_eq_true rfl)⟩ (by show nk + 0 ≤ 30 ∧ nz + 0 ≤ 150; omega) rfl (Nat.le_of_ble_eq_true rfl) dL_text_102 ?_
  rintro _ MQ ⟨rfl, hQ⟩
  have hQ := hQ.symm
  subst hQ
  show TO X A _ _ nk nz 105 _ (iV _ :: .ref _ :: [])
  refine tw_callX C (As := [iV (u.length : Int)]) (ct_X12_truncate _ _ (u.length : Int) σ) (r := (some (iV 1), xput σ 0 1 (u.length : Int))) (by rw [c_truncate hSP.1 h3 (by omega)]; rfl) hfl ham hA (fun b e h => by cases h) mt_X12_truncate vr_X12_truncate rfl wd925 rfl ⟨rfl, rfl, Nat.le_of_ble_eq_true rfl, Nat.le_of_ble_eq_true rfl⟩ ⟨h1, h2⟩ rfl (Nat.le_of_ble_eq_true rfl) dL_text_105 ?_
  show TO X A _ _ nk nz 108 _ (iV _ :: [])
  refine tw_pop C dL_text_108 rfl ?_
  refine tw_vret C ⟨rfl, xput σ 0 1 (u.length : Int), rfl, by rw [xput_eq], fun j hj => ?_, fun j => ?_, fun a j c1 c2 => ?_⟩ rfl ⟨h1, h2⟩ dL_text_109
  · rw [xput_ne (by omega)]
    exact hSP.2.1 j (by omega)
  · rw [xput_ne (by omega)]
    exact hSP.2.2.1 j
  · rw [xput_ne (by omega)]
    exact hSP.2.2.2 a j c1 c2
theorem tc_L_parsed (l : Launch) (E : xE) (A : Nat → Prop) (ss : tSs) (σ0 : xS) (hfl : E.2.1.2.2 9 0 ≠ 0) (ham : ∀ U H, E.2.1.2.1 U H) (hA : ∀ q, xA E q → A q) (a w : Nat) (g : Nat → Int32) (u : List Int32) (hS : .inl (a, w, u.length, g) ∈ ss) (hgu : ∀ k, k < u.length → g k = u.getD k 0) (hu : aL u) (hm : u.length ≤ 460) (h0 : SP u σ0 σ0 0) (PP : Int × xS → Prop) (hres : ∀ σ, SP u σ0 σ u.length → OK (m_X12_parseBakery 4000000 σ) PP) : tMet l E yL_parsed cL_parsed 2 (some .int) { frames := 12, cells := 30, slots := 150, locals := 280 } [.ref (xqa E.2.2 0), .ref a] A ss (wA E σ0 tN) (fun r M2 => ∃ x, r = some (iV x.1) ∧ M2 = wA E x.2 tN ∧ PP x) := by
  refine tMet.of (by decide) (Nat.le_of_ble_eq_true rfl) fun X hE hl hnm C => ?_
  subst hE
  refine tw_aload_n C 0 dL_parsed_0 rfl rfl ?_
  refine tw_aload_n C 1 dL_parsed_1 rfl rfl ?_
  refine tw_callS C (tGo_same C) (As := [.ref (xqa (xXE X).2.2 0), .ref a]) (tc_L_text _ _ _ _ σ0 hfl ham hA a w g u hS hgu hu hm h0) mt_L_text st_L_text wd866 rfl ⟨(Nat.le_of_ble_eq_true rfl), (Nat.le_of_ble_eq_true rfl)⟩ (by show 0 + 30 ≤ 30 ∧ 0 + 150 ≤ 150; omega) rfl (Nat.le_of_ble_eq_true rfl) dL_parsed_2 ?_
  rintro _ _ ⟨rfl, σ, rfl, hSP⟩
  obtain ⟨x, hx, hPP⟩ := hres σ hSP
  show TO X A _ _ 30 150 5 _ []
  refine tw_aload_n C 0 dL_parsed_5 rfl rfl ?_
  refine tw_callX C (As := []) (ct_X12_parseBakery _ _ 4000000 σ) (r := (some (iV x.1), x.2)) (by rw [hx]; rfl) hfl ham hA (fun b e h => by cases h) mt_X12_parseBakery vr_X12_parseBakery rfl wd929 rfl ⟨rfl, rfl, Nat.le_of_ble_eq_true rfl, Nat.le_of_ble_eq_true rfl⟩ ⟨Nat.le_refl _, Nat.le_refl _⟩ rfl (Nat.le_of_ble_eq_true rfl) dL_parsed_6 ?_
  show TO X A _ _ 30 150 9 _ (iV _ :: [])
  exact tw_iret C ⟨x, rfl, rfl, hPP⟩ rfl ⟨Nat.le_refl _, Nat.le_refl _⟩ dL_parsed_9
