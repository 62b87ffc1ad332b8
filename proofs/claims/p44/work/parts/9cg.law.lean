/-! THE LAW'S WALK, out of what its pure functions answer -/
def FirstOK (σ τ : xS) : Prop := m_X12_spoiledCount 4000000 σ = some (-2) ∧ m_X12_batchCount 4000000 σ = some 0 ∧ ∃ s1 s2 s3, m_X12_undo 4000000 σ = some (-1, s1) ∧ m_X12_simulate 4000000 7 s1 = some (7, s2) ∧ m_X12_failedShops 4000000 s2 = some (0, s3) ∧ m_X12_latestStart 4000000 s3 = some (1439, τ) ∧ m_X12_routeMinutes 0 τ = some 0 ∧ m_X12_errorCode τ = 0
/-- a bakery by the cells c: what is asked of it, in turn -/
def TurnOK (J : xS → Prop) (c : Nat → Int) (x : xS) : Prop := ∃ nb s1 s2 s3 s4, m_X12_orderCount x = 4 ∧ m_X12_batchCount 4000000 x = some nb ∧ (-2147483648 ≤ nb ∧ nb < 2147483648) ∧ (0 < nb → m_L_isNight 4000000 ((bw (c 12) 0 900 : Nat) : Int) x = some (1, s1)) ∧ (¬ 0 < nb → s1 = x) ∧ m_L_isMoved 4000000 ((bw (c 12) 0 900 : Nat) : Int) s1 = some (1, s2) ∧ m_L_isLatest 4000000 s2 = some (1, s3) ∧ m_L_isUndone 4000000 (c 13) s3 = some (1, s4) ∧ J s4
def RoundOK (J : xS → Prop) (c : Nat → Int) (σ : xS) : Prop := SP (bT c) σ σ 0 ∧ ∀ y, SP (bT c) σ y (bT c).length → OK (m_X12_parseBakery 4000000 y) (fun x => x.1 = 14 ∧ TurnOK J c x.2)
theorem lw_first {X : xX} {A : Nat → Prop} {Q : State → Prop} {b n : Nat} {xs : Nat → Int32} (C : tCx X A [.inr (b, n, xs)] cL_law "BakeryNightLaw" (some .boolean) room_1 5) (hn : n ≤ 260) (hfl : (xXE X).2.1.2.2 9 0 ≠ 0) (ham : ∀ U H, (xXE X).2.1.2.1 U H) (hA : ∀ q, xA (xXE X) q → A q) {σ τ : xS} {nk nz : Nat} (h1 : nk ≤ 600086) (h2 : nz ≤ 7301442) (hF : FirstOK σ τ) (kk : TO X A Q (wA (xXE X) τ tN) nk nz 79 [(0, .ref b), (1, .ref (xqa (xXE X).2.2 0)), (2, iV 0)] []) : TO X A Q (wA (xXE X) σ tN) nk nz 8 [(1, .ref (xqa (xXE X).2.2 0)), (0, .ref b)] [] := by
  obtain ⟨e1, e2, s1, s2, s3, e3, e4, e5, e6, e7, e8⟩ := hF
  refine tw_aload_n C 0 dL_law_8 rfl rfl ?_
  refine tw_callX C (As := []) (ct_X12_spoiledCount _ _ 4000000 σ) (r := (some (iV (-2)), σ)) (by rw [e1]; rfl) hfl ham hA (fun b e h => by cases h) mt_X12_spoiledCount vr_X12_spoiledCount rfl wd752 rfl ⟨rfl, rfl, (Nat.le_of_ble_eq_true rfl), (Nat.le_of_ble_eq_true rfl)⟩ (by show nk ≤ 600086 ∧ nz ≤ 7301442; omega) rfl (Nat.le_of_ble_eq_true rfl) dL_law_9 ?_
  show TO X A Q _ (nk) (nz) 12 _ (iV (-2) :: [])
  refine tw_bipush C (-2) dL_law_12 rfl ?_
  refine tw_icmp_ne C 75 (x' := -2) (y' := -2) (zI_eq (by decide) (by decide)) (zI_eq (by decide) (by decide)) dL_law_14 rfl (fun hc => absurd rfl hc) (fun _ => ?_)
  refine tw_aload_n C 0 dL_law_17 rfl rfl ?_
  refine tw_callX C (As := []) (ct_X12_batchCount _ _ 4000000 σ) (r := (some (iV (0)), σ)) (by rw [e2]; rfl) hfl ham hA (fun b e h => by cases h) mt_X12_batchCount vr_X12_batchCount rfl wd612 rfl ⟨rfl, rfl, (Nat.le_of_ble_eq_true rfl), (Nat.le_of_ble_eq_true rfl)⟩ (by show nk ≤ 600086 ∧ nz ≤ 7301442; omega) rfl (Nat.le_of_ble_eq_true rfl) dL_law_18 ?_
  show TO X A Q _ (nk) (nz) 21 _ (iV (0) :: [])
  refine tw_if_ne C 75 (x' := 0) (zI_eq (by decide) (by decide)) dL_law_21 rfl (fun hc => absurd rfl hc) (fun _ => ?_)
  refine tw_aload_n C 0 dL_law_24 rfl rfl ?_
  refine tw_callX C (As := []) (ct_X12_undo _ _ 4000000 σ) (r := (some (iV (-1)), s1)) (by rw [e3]; rfl) hfl ham hA (fun b e h => by cases h) mt_X12_undo vr_X12_undo rfl wd838 rfl ⟨rfl, rfl, (Nat.le_of_ble_eq_true rfl), (Nat.le_of_ble_eq_true rfl)⟩ (by show nk ≤ 600086 ∧ nz ≤ 7301442; omega) rfl (Nat.le_of_ble_eq_true rfl) dL_law_25 ?_
  show TO X A Q _ (nk) (nz) 28 _ (iV (-1) :: [])
  refine tw_iconst C (-1) dL_law_28 rfl ?_
  refine tw_icmp_ne C 75 (x' := -1) (y' := -1) (zI_eq (by decide) (by decide)) (zI_eq (by decide) (by decide)) dL_law_29 rfl (fun hc => absurd rfl hc) (fun _ => ?_)
  refine tw_aload_n C 0 dL_law_32 rfl rfl ?_
  refine tw_bipush C (7) dL_law_33 rfl ?_
  refine tw_callX C (As := [iV 7]) (ct_X12_simulate _ _ 4000000 7 s1) (r := (some (iV (7)), s2)) (by rw [e4]; rfl) hfl ham hA (fun b e h => by cases h) mt_X12_simulate vr_X12_simulate rfl wd648 rfl ⟨rfl, rfl, (Nat.le_of_ble_eq_true rfl), (Nat.le_of_ble_eq_true rfl)⟩ (by show nk ≤ 600086 ∧ nz ≤ 7301442; omega) rfl (Nat.le_of_ble_eq_true rfl) dL_law_35 ?_
  show TO X A Q _ (nk) (nz) 38 _ (iV (7) :: [])
  refine tw_bipush C (7) dL_law_38 rfl ?_
  refine tw_icmp_ne C 75 (x' := 7) (y' := 7) (zI_eq (by decide) (by decide)) (zI_eq (by decide) (by decide)) dL_law_40 rfl (fun hc => absurd rfl hc) (fun _ => ?_)
  refine tw_aload_n C 0 dL_law_43 rfl rfl ?_
  refine tw_callX C (As := []) (ct_X12_failedShops _ _ 4000000 s2) (r := (some (iV (0)), s3)) (by rw [e5]; rfl) hfl ham hA (fun b e h => by cases h) mt_X12_failedShops vr_X12_failedShops rfl wd760 rfl ⟨rfl, rfl, (Nat.le_of_ble_eq_true rfl), (Nat.le_of_ble_eq_true rfl)⟩ (by show nk ≤ 600086 ∧ nz ≤ 7301442; omega) rfl (Nat.le_of_ble_eq_true rfl) dL_law_44 ?_
  show TO X A Q _ (nk) (nz) 47 _ (iV (0) :: [])
  refine tw_if_ne C 75 (x' := 0) (zI_eq (by decide) (by decide)) dL_law_47 rfl (fun hc => absurd rfl hc) (fun _ => ?_)
  refine tw_aload_n C 0 dL_law_50 rfl rfl ?_
  refine tw_callX C (As := []) (ct_X12_latestStart _ _ 4000000 s3) (r := (some (iV (1439)), τ)) (by rw [e6]; rfl) hfl ham hA (fun b e h => by cases h) mt_X12_latestStart vr_X12_latestStart rfl wd826 rfl ⟨rfl, rfl, (Nat.le_of_ble_eq_true rfl), (Nat.le_of_ble_eq_true rfl)⟩ (by show nk ≤ 600086 ∧ nz ≤ 7301442; omega) rfl (Nat.le_of_ble_eq_true rfl) dL_law_51 ?_
  show TO X A Q _ (nk) (nz) 54 _ (iV (1439) :: [])
  refine tw_sipush C (1439) dL_law_54 rfl ?_
  refine tw_icmp_ne C 75 (x' := 1439) (y' := 1439) (zI_eq (by decide) (by decide)) (zI_eq (by decide) (by decide)) dL_law_57 rfl (fun hc => absurd rfl hc) (fun _ => ?_)
  refine tw_aload_n C 0 dL_law_60 rfl rfl ?_
  refine tw_iconst C (0) dL_law_61 rfl ?_
  refine tw_callX C (As := [iV 0]) (ct_X12_routeMinutes _ _ 0 τ) (r := (some (iV (0)), τ)) (by rw [e7]; rfl) hfl ham hA (fun b e h => by cases h) mt_X12_routeMinutes vr_X12_routeMinutes rfl wd635 rfl ⟨rfl, rfl, (Nat.le_of_ble_eq_true rfl), (Nat.le_of_ble_eq_true rfl)⟩ (by show nk ≤ 600086 ∧ nz ≤ 7301442; omega) rfl (Nat.le_of_ble_eq_true rfl) dL_law_62 ?_
  show TO X A Q _ (nk) (nz) 65 _ (iV (0) :: [])
  refine tw_if_ne C 75 (x' := 0) (zI_eq (by decide) (by decide)) dL_law_65 rfl (fun hc => absurd rfl hc) (fun _ => ?_)
  refine tw_aload_n C 0 dL_law_68 rfl rfl ?_
  refine tw_callX C (As := []) (ct_X12_errorCode _ _ τ) (r := (some (iV (0)), τ)) (by rw [e8]) hfl ham hA (fun b e h => by cases h) mt_X12_errorCode vr_X12_errorCode rfl wd604 rfl ⟨rfl, rfl, (Nat.le_of_ble_eq_true rfl), (Nat.le_of_ble_eq_true rfl)⟩ (by show nk ≤ 600086 ∧ nz ≤ 7301442; omega) rfl (Nat.le_of_ble_eq_true rfl) dL_law_69 ?_
  show TO X A Q _ (nk) (nz) 72 _ (iV (0) :: [])
  refine tw_if_eq C 77 (x' := 0) (zI_eq (by decide) (by decide)) dL_law_72 rfl (fun _ => ?_) (fun hc => absurd rfl hc)
  refine tw_iconst C (0) dL_law_77 rfl ?_
  refine tw_istore_n C dL_law_78 rfl (by decide) rfl ?_
  exact tw_pick [2, 1, 0] rfl kk
theorem lw_round {X : xX} {A : Nat → Prop} {Q : State → Prop} {b n : Nat} {xs : Nat → Int32} (C : tCx X A [.inr (b, n, xs)] cL_law "BakeryNightLaw" (some .boolean) room_1 5) (hn : n ≤ 260) (hfl : (xXE X).2.1.2.2 9 0 ≠ 0) (ham : ∀ U H, (xXE X).2.1.2.1 U H) (hA : ∀ q, xA (xXE X) q → A q) {J : xS → Prop} {σ : xS} {k nk nz : Nat} (hk : k < 2) (h1 : nk + 140 ≤ 600086) (h2 : nz + 392630 ≤ 7301442) (hAL : ∀ c, aL (bT c)) (hR : RoundOK J (fun j => cl xs n (20 * k + j)) σ) (kk : ∀ τ, J τ → TO X A Q (wA (xXE X) τ tN) (nk + 140) (nz + 392630) 79 [(0, .ref b), (1, .ref (xqa (xXE X).2.2 0)), (2, iV ((k : Int) + 1))] []) : TO X A Q (wA (xXE X) σ tN) nk nz 79 [(0, .ref b), (1, .ref (xqa (xXE X).2.2 0)), (2, iV (k : Int))] [] := by
  refine tw_iload_n C 2 dL_law_79 rfl rfl ?_
  refine tw_iconst C (2) dL_law_80 rfl ?_
  refine tw_icmp_ge C 187 (x' := (k : Int)) (y' := 2) (zN k (by omega)) (zI_eq (by decide) (by decide)) dL_law_81 rfl (fun hc => absurd hc (by omega)) (fun _ => ?_)
  refine tw_bipush C (20) dL_law_84 rfl ?_
  refine tw_iload_n C 2 dL_law_86 rfl rfl ?_
  refine tw_imul C dL_law_87 ?_
  refine tw_istore_n C dL_law_88 rfl (by decide) rfl ?_
  refine tw_aload_n C 2 dL_law_89 rfl rfl ?_
  refine tw_aload_n C 1 dL_law_90 rfl rfl ?_
  refine tw_iload_n C 0 dL_law_91 rfl rfl ?_
  refine tw_callF C (As := [.ref b, iV ((20 * k : Nat) : Int)]) (fun A1 => tc_L_bakery _ _ A1 [.inr (b, n, xs)] b n xs (List.mem_singleton.mpr rfl) hn (20 * k) (by omega)) (fun q h => h) mt_L_bakery st_L_bakery wd1095 rfl ⟨(Nat.le_of_ble_eq_true rfl), (Nat.le_of_ble_eq_true rfl)⟩ (by show nk + 110 ≤ 600086 ∧ nz + 392480 ≤ 7301442; omega) rfl (Nat.le_of_ble_eq_true rfl) dL_law_92 ?_
  rintro _ M2 ⟨a, w, rfl, i1, ⟨f2, i2, i3, i4⟩, i5⟩ hdis
  show TO X A Q _ (nk + 110) (nz + 392480) 95 _ (.ref a :: .ref (xqa (xXE X).2.2 0) :: [])
  have hdw : ∀ q e, wA (xXE X) σ tN q = some e → q ≠ a ∧ q ≠ w := fun q e hq => ⟨fun c => (by rw [c, hdis a _ i1] at hq; cases hq), fun c => (by rw [c, hdis w _ i2] at hq; cases hq)⟩
  have hxa : ∀ q, xA (xXE X) q → A q ∧ q ≠ a ∧ q ≠ w := fun q hq => ⟨hA q hq, hdw q _ (if_pos hq)⟩
  refine tw_callS C (tGo_sub (tGo_drop C ((mU_r (hdis a _ i1)).trans i1) ((mU_r (hdis w _ i2)).trans i2)) (fun q e hq => (if_neg (fun c => c.elim (hdw q e hq).1 (hdw q e hq).2)).trans (mU_l hq))) (As := [.ref (xqa (xXE X).2.2 0), .ref a]) (tc_L_parsed _ _ _ _ σ hfl ham hxa a w f2 (bT (fun j => cl xs n (20 * k + j))) (List.mem_singleton.mpr rfl) i4 (hAL _) (by omega) hR.1 (fun x => x.1 = 14 ∧ TurnOK J (fun j => cl xs n (20 * k + j)) x.2) hR.2) mt_L_parsed st_L_parsed wd863 rfl ⟨(Nat.le_of_ble_eq_true rfl), (Nat.le_of_ble_eq_true rfl)⟩ (by show nk + 110 + 30 ≤ 600086 ∧ nz + 392480 + 150 ≤ 7301442; omega) rfl (Nat.le_of_ble_eq_true rfl) dL_law_95 ?_
  rintro _ _ ⟨⟨xv, x⟩, rfl, rfl, hx14, nb, s1, s2, s3, s4, e1, e2, e3, e4, e5, e6, e7, e8, hJ⟩
  obtain rfl : xv = 14 := hx14
  dsimp only at e1 e2 e4 e5 e6 e7 e8
  show TO X A Q (wA (xXE X) x tN) (nk + 140) (nz + 392630) 98 _ (iV 14 :: [])
  refine tw_bipush C (14) dL_law_98 rfl ?_
  refine tw_icmp_ne C 111 (x' := 14) (y' := 14) (zI_eq (by decide) (by decide)) (zI_eq (by decide) (by decide)) dL_law_100 rfl (fun hc => absurd rfl hc) (fun _ => ?_)
  refine tw_aload_n C 2 dL_law_103 rfl rfl ?_
  refine tw_callX C (As := []) (ct_X12_orderCount _ _ x) (r := (some (iV 4), x)) (by rw [e1]) hfl ham hA (fun b e h => by cases h) mt_X12_orderCount vr_X12_orderCount rfl wd608 rfl ⟨rfl, rfl, (Nat.le_of_ble_eq_true rfl), (Nat.le_of_ble_eq_true rfl)⟩ (by show nk + 140 ≤ 600086 ∧ nz + 392630 ≤ 7301442; omega) rfl (Nat.le_of_ble_eq_true rfl) dL_law_104 ?_
  show TO X A Q _ (nk + 140) (nz + 392630) 107 _ (iV 4 :: [])
  refine tw_iconst C (4) dL_law_107 rfl ?_
  refine tw_icmp_eq C 113 (x' := 4) (y' := 4) (zI_eq (by decide) (by decide)) (zI_eq (by decide) (by decide)) dL_law_108 rfl (fun _ => ?_) (fun hc => absurd rfl hc)
  refine tw_aload_n C 1 dL_law_113 rfl rfl ?_
  refine tw_iload_n C 0 dL_law_114 rfl rfl ?_
  refine tw_bipush C (12) dL_law_115 rfl ?_
  refine tw_iadd C dL_law_117 ?_
  refine tw_callS C (tGo_same C) (As := [.ref b, iV ((20 * k + 12 : Nat) : Int)]) (tc_L_cell _ _ _ _ _ b n xs (List.mem_singleton.mpr rfl) hn (20 * k + 12) (by omega)) mt_L_cell st_L_cell wd854 rfl ⟨(Nat.le_of_ble_eq_true rfl), (Nat.le_of_ble_eq_true rfl)⟩ (by show nk + 140 + 0 ≤ 600086 ∧ nz + 392630 + 0 ≤ 7301442; omega) rfl (Nat.le_of_ble_eq_true rfl) dL_law_118 ?_
  rintro _ MQ ⟨rfl, hQ⟩
  have hQ := hQ.symm
  subst hQ
  show TO X A Q _ (nk + 140) (nz + 392630) 121 _ (iV (cl xs n (20 * k + 12)) :: [])
  refine tw_iconst C (0) dL_law_121 rfl ?_
  refine tw_sipush C (900) dL_law_122 rfl ?_
  refine tw_callS C (tGo_same C) (As := [iV (cl xs n (20 * k + 12)), iV 0, iV 900]) (tc_L_between _ _ _ _ _ (cl xs n (20 * k + 12)) 0 900 (by decide) (by decide)) mt_L_between st_L_between wd859 rfl ⟨(Nat.le_of_ble_eq_true rfl), (Nat.le_of_ble_eq_true rfl)⟩ (by show nk + 140 + 0 ≤ 600086 ∧ nz + 392630 + 0 ≤ 7301442; omega) rfl (Nat.le_of_ble_eq_true rfl) dL_law_125 ?_
  rintro _ MQ ⟨rfl, hQ⟩
  have hQ := hQ.symm
  subst hQ
  show TO X A Q _ (nk + 140) (nz + 392630) 128 _ (iV ((bw (cl xs n (20 * k + 12)) 0 900 : Nat) : Int) :: [])
  refine tw_istore C dL_law_128 (by decide) rfl ?_
  refine tw_aload_n C 3 dL_law_130 rfl rfl ?_
  refine tw_callX C (As := []) (ct_X12_batchCount _ _ 4000000 x) (r := (some (iV nb), x)) (by rw [e2]; rfl) hfl ham hA (fun b e h => by cases h) mt_X12_batchCount vr_X12_batchCount rfl wd612 rfl ⟨rfl, rfl, (Nat.le_of_ble_eq_true rfl), (Nat.le_of_ble_eq_true rfl)⟩ (by show nk + 140 ≤ 600086 ∧ nz + 392630 ≤ 7301442; omega) rfl (Nat.le_of_ble_eq_true rfl) dL_law_131 ?_
  show TO X A Q _ (nk + 140) (nz + 392630) 134 _ (iV nb :: [])
  suffices hj : TO X A Q (wA (xXE X) s1 tN) (nk + 140) (nz + 392630) 148 [(4, iV ((bw (cl xs n (20 * k + 12)) 0 900 : Nat) : Int)), (3, iV ((20 * k : Nat) : Int)), (0, .ref b), (1, .ref (xqa (xXE X).2.2 0)), (2, iV (k : Int))] [] by
    refine tw_if_le C 148 (x' := nb) (zI_eq e3.1 e3.2) dL_law_134 rfl (fun hc => ?_) (fun hc => ?_)
    · rw [e5 (by omega)] at hj
      exact hj
    · refine tw_aload_n C 3 dL_law_137 rfl rfl ?_
      refine tw_iload C 0 dL_law_138 rfl ?_
      refine tw_callXS C (As := [.ref (xqa (xXE X).2.2 0), iV ((bw (cl xs n (20 * k + 12)) 0 900 : Nat) : Int)]) (ct_L_isNight _ _ 4000000 ((bw (cl xs n (20 * k + 12)) 0 900 : Nat) : Int) x) (r := (some (iV (1)), s1)) (by rw [e4 (by omega)]; rfl) hfl ham hA (fun b e h => by cases h) mt_L_isNight st_L_isNight wd1346 rfl ⟨rfl, rfl, (Nat.le_of_ble_eq_true rfl), (Nat.le_of_ble_eq_true rfl)⟩ (by show nk + 140 ≤ 600086 ∧ nz + 392630 ≤ 7301442; omega) rfl (Nat.le_of_ble_eq_true rfl) dL_law_140 ?_
      show TO X A Q _ (nk + 140) (nz + 392630) 143 _ (iV (1) :: [])
      refine tw_if_ne C 148 (x' := 1) (zI_eq (by decide) (by decide)) dL_law_143 rfl (fun _ => ?_) (fun hc => absurd hc (by decide))
      exact hj
  refine tw_aload_n C 3 dL_law_148 rfl rfl ?_
  refine tw_iload C 0 dL_law_149 rfl ?_
  refine tw_callXS C (As := [.ref (xqa (xXE X).2.2 0), iV ((bw (cl xs n (20 * k + 12)) 0 900 : Nat) : Int)]) (ct_L_isMoved _ _ 4000000 ((bw (cl xs n (20 * k + 12)) 0 900 : Nat) : Int) s1) (r := (some (iV (1)), s2)) (by rw [e6]; rfl) hfl ham hA (fun b e h => by cases h) mt_L_isMoved st_L_isMoved wd1510 rfl ⟨rfl, rfl, (Nat.le_of_ble_eq_true rfl), (Nat.le_of_ble_eq_true rfl)⟩ (by show nk + 140 ≤ 600086 ∧ nz + 392630 ≤ 7301442; omega) rfl (Nat.le_of_ble_eq_true rfl) dL_law_151 ?_
  show TO X A Q _ (nk + 140) (nz + 392630) 154 _ (iV (1) :: [])
  refine tw_if_eq C 179 (x' := 1) (zI_eq (by decide) (by decide)) dL_law_154 rfl (fun hc => absurd hc (by decide)) (fun _ => ?_)
  refine tw_aload_n C 3 dL_law_157 rfl rfl ?_
  refine tw_callXS C (As := [.ref (xqa (xXE X).2.2 0)]) (ct_L_isLatest _ _ 4000000 s2) (r := (some (iV (1)), s3)) (by rw [e7]; rfl) hfl ham hA (fun b e h => by cases h) mt_L_isLatest st_L_isLatest wd1513 rfl ⟨rfl, rfl, (Nat.le_of_ble_eq_true rfl), (Nat.le_of_ble_eq_true rfl)⟩ (by show nk + 140 ≤ 600086 ∧ nz + 392630 ≤ 7301442; omega) rfl (Nat.le_of_ble_eq_true rfl) dL_law_158 ?_
  show TO X A Q _ (nk + 140) (nz + 392630) 161 _ (iV (1) :: [])
  refine tw_if_eq C 179 (x' := 1) (zI_eq (by decide) (by decide)) dL_law_161 rfl (fun hc => absurd hc (by decide)) (fun _ => ?_)
  refine tw_aload_n C 3 dL_law_164 rfl rfl ?_
  refine tw_aload_n C 2 dL_law_165 rfl rfl ?_
  refine tw_iload_n C 1 dL_law_166 rfl rfl ?_
  refine tw_bipush C (13) dL_law_167 rfl ?_
  refine tw_iadd C dL_law_169 ?_
  refine tw_callS C (tGo_same C) (As := [.ref b, iV ((20 * k + 13 : Nat) : Int)]) (tc_L_cell _ _ _ _ _ b n xs (List.mem_singleton.mpr rfl) hn (20 * k + 13) (by omega)) mt_L_cell st_L_cell wd854 rfl ⟨(Nat.le_of_ble_eq_true rfl), (Nat.le_of_ble_eq_true rfl)⟩ (by show nk + 140 + 0 ≤ 600086 ∧ nz + 392630 + 0 ≤ 7301442; omega) rfl (Nat.le_of_ble_eq_true rfl) dL_law_170 ?_
  rintro _ MQ ⟨rfl, hQ⟩
  have hQ := hQ.symm
  subst hQ
  show TO X A Q _ (nk + 140) (nz + 392630) 173 _ (iV (cl xs n (20 * k + 13)) :: .ref (xqa (xXE X).2.2 0) :: [])
  refine tw_callXS C (As := [.ref (xqa (xXE X).2.2 0), iV (cl xs n (20 * k + 13))]) (ct_L_isUndone _ _ 4000000 (cl xs n (20 * k + 13)) s3) (r := (some (iV (1)), s4)) (by rw [e8]; rfl) hfl ham hA (fun b e h => by cases h) mt_L_isUndone st_L_isUndone wd1548 rfl ⟨rfl, rfl, (Nat.le_of_ble_eq_true rfl), (Nat.le_of_ble_eq_true rfl)⟩ (by show nk + 140 ≤ 600086 ∧ nz + 392630 ≤ 7301442; omega) rfl (Nat.le_of_ble_eq_true rfl) dL_law_173 ?_
  show TO X A Q _ (nk + 140) (nz + 392630) 176 _ (iV (1) :: [])
  refine tw_if_ne C 181 (x' := 1) (zI_eq (by decide) (by decide)) dL_law_176 rfl (fun _ => ?_) (fun hc => absurd hc (by decide))
  refine tw_iinc C 4 _ dL_law_181 rfl rfl (by decide) rfl ?_
  refine tw_goto C 79 dL_law_184 rfl ?_
  exact tw_pick [3, 4, 0] rfl (kk s4 hJ)
