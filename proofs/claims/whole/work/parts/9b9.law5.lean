/-! the law's loop -/
set_option maxHeartbeats 4000000 in
set_option maxRecDepth 100000 in
/-- one turn, by the case of the script's int -/
theorem lw_turn {ρ : Type} {X : xX} {Qf : ρ → State → Prop} {o : Option ρ} {σ : xS} {b Ln i k z m Lb : Nat} {xs : Nat → Int32} {β : Nat → Int} {B : Nat → Nat → Int} (Cg : xCg X cL_law "BakeryNightLaw" (some .boolean) room_1 7) (hs : lsS X b Ln xs) (hi : i + 6 ≤ Ln) (hk1 : k + 1 ≤ 601024 ∧ z + 6 ≤ 7293034) (hT : XT (xA (xXE X)) (xXs X) (xXs X).heap) (hlt : (xXl X).stackTraces = false) (hE : (xXE X).2.1.2.2 9 0 ≠ 0) (h : TJ σ β Lb m B)
    (aft : LWaft X Qf o b i k z) (x : Int) : WO (xat X k z) Qf WW σ 40 (lL X b i) [iV x] o := by
  have hk : k ≤ 601024 ∧ z ≤ 7293034 := ⟨by omega, by omega⟩
  have C := Cg k z hk.1 hk.2
  obtain ⟨c, hc⟩ : ∃ c, zI x = c := ⟨_, rfl⟩
  have hcs : c = 0 ∨ c = 1 ∨ c = 2 ∨ c = 3 ∨ c = 4 ∨ c = 5 ∨ c = 6 ∨ c = 7 ∨ c = 8 ∨ c = 9 ∨ c = 10 ∨ c = 11 ∨ c = 12 ∨ c = 13 ∨ c = 14 ∨ c = 15 ∨ c = 16 ∨ c = 17 ∨ c = 18 ∨ c = 19 ∨ c = 20 ∨ c = 21 ∨ c = 22 ∨ c = 23 ∨ c = 24 ∨ c = 25 ∨ c = 26 ∨ c = 27 ∨ c = 28 ∨ c = 29 ∨ c = 30 ∨ c = 31 ∨ c = 32 ∨ c = 33 ∨ c = 34 ∨ c = 35 ∨ c = 36 ∨ c = 37 ∨ c = 38 ∨ c = 39 ∨ c = 40 ∨ (c < 0 ∨ 40 < c) := by omega
  rcases hcs with rfl | rfl | rfl | rfl | rfl | rfl | rfl | rfl | rfl | rfl | rfl | rfl | rfl | rfl | rfl | rfl | rfl | rfl | rfl | rfl | rfl | rfl | rfl | rfl | rfl | rfl | rfl | rfl | rfl | rfl | rfl | rfl | rfl | rfl | rfl | rfl | rfl | rfl | rfl | rfl | rfl | hc2
  · refine x_tabIn C hc 220 dL_law_40 rfl (by decide) (by decide) (show _ = some (180 : Int) from rfl) rfl ?_
    exact lc_feed Cg hs hi hk h aft
  · refine x_tabIn C hc 293 dL_law_40 rfl (by decide) (by decide) (show _ = some (253 : Int) from rfl) rfl ?_
    exact lc_truncate Cg hs hi hk h aft
  · refine x_tabIn C hc 318 dL_law_40 rfl (by decide) (by decide) (show _ = some (278 : Int) from rfl) rfl ?_
    exact lc_parseBakery Cg hs hi hk h aft
  · refine x_tabIn C hc 331 dL_law_40 rfl (by decide) (by decide) (show _ = some (291 : Int) from rfl) rfl ?_
    exact lc_errorCode Cg hs hi hk h aft
  · refine x_tabIn C hc 344 dL_law_40 rfl (by decide) (by decide) (show _ = some (304 : Int) from rfl) rfl ?_
    exact lc_errorOffset Cg hs hi hk h aft
  · refine x_tabIn C hc 357 dL_law_40 rfl (by decide) (by decide) (show _ = some (317 : Int) from rfl) rfl ?_
    exact lc_orderCount Cg hs hi hk h aft
  · refine x_tabIn C hc 370 dL_law_40 rfl (by decide) (by decide) (show _ = some (330 : Int) from rfl) rfl ?_
    exact lc_orderedLoaves Cg hs hi hk h aft
  · refine x_tabIn C hc 395 dL_law_40 rfl (by decide) (by decide) (show _ = some (355 : Int) from rfl) rfl ?_
    exact lc_batchCount Cg hs hi hk h aft
  · refine x_tabIn C hc 408 dL_law_40 rfl (by decide) (by decide) (show _ = some (368 : Int) from rfl) rfl ?_
    by_cases hz : (xs (i + 2)).toInt = 0
    · exact lc_risingMinutes_0 Cg hs hi hk h hz aft
    · exact lc_risingMinutes_1 Cg hs hi hk h hz aft
  · refine x_tabIn C hc 461 dL_law_40 rfl (by decide) (by decide) (show _ = some (421 : Int) from rfl) rfl ?_
    exact lc_distance Cg hs hi hk h aft
  · refine x_tabIn C hc 498 dL_law_40 rfl (by decide) (by decide) (show _ = some (458 : Int) from rfl) rfl ?_
    exact lc_routeMinutes Cg hs hi hk h aft
  · refine x_tabIn C hc 523 dL_law_40 rfl (by decide) (by decide) (show _ = some (483 : Int) from rfl) rfl ?_
    exact lc_routeStop Cg hs hi hk h aft
  · refine x_tabIn C hc 560 dL_law_40 rfl (by decide) (by decide) (show _ = some (520 : Int) from rfl) rfl ?_
    exact lc_simulate Cg hs hi hk h aft
  · refine x_tabIn C hc 585 dL_law_40 rfl (by decide) (by decide) (show _ = some (545 : Int) from rfl) rfl ?_
    exact lc_batchDough Cg hs hi hk1 hT hlt hE h aft
  · refine x_tabIn C hc 641 dL_law_40 rfl (by decide) (by decide) (show _ = some (601 : Int) from rfl) rfl ?_
    exact lc_stageMinute Cg hs hi hk1 hT hlt hE h aft
  · refine x_tabIn C hc 709 dL_law_40 rfl (by decide) (by decide) (show _ = some (669 : Int) from rfl) rfl ?_
    exact lc_ovenOf Cg hs hi hk1 hT hlt hE h aft
  · refine x_tabIn C hc 765 dL_law_40 rfl (by decide) (by decide) (show _ = some (725 : Int) from rfl) rfl ?_
    exact lc_spoiledCount Cg hs hi hk h aft
  · refine x_tabIn C hc 778 dL_law_40 rfl (by decide) (by decide) (show _ = some (738 : Int) from rfl) rfl ?_
    exact lc_changingMinutes Cg hs hi hk h aft
  · refine x_tabIn C hc 803 dL_law_40 rfl (by decide) (by decide) (show _ = some (763 : Int) from rfl) rfl ?_
    exact lc_bakingMinutes Cg hs hi hk h aft
  · refine x_tabIn C hc 828 dL_law_40 rfl (by decide) (by decide) (show _ = some (788 : Int) from rfl) rfl ?_
    exact lc_waitingMinutes Cg hs hi hk h aft
  · refine x_tabIn C hc 853 dL_law_40 rfl (by decide) (by decide) (show _ = some (813 : Int) from rfl) rfl ?_
    exact lc_shelvesUsed Cg hs hi hk h aft
  · refine x_tabIn C hc 890 dL_law_40 rfl (by decide) (by decide) (show _ = some (850 : Int) from rfl) rfl ?_
    exact lc_busy Cg hs hi hk h aft
  · refine x_tabIn C hc 927 dL_law_40 rfl (by decide) (by decide) (show _ = some (887 : Int) from rfl) rfl ?_
    exact lc_busiestMinute Cg hs hi hk h aft
  · refine x_tabIn C hc 952 dL_law_40 rfl (by decide) (by decide) (show _ = some (912 : Int) from rfl) rfl ?_
    exact lc_readyMinute Cg hs hi hk h aft
  · refine x_tabIn C hc 977 dL_law_40 rfl (by decide) (by decide) (show _ = some (937 : Int) from rfl) rfl ?_
    exact lc_surplusLoaves Cg hs hi hk h aft
  · refine x_tabIn C hc 1002 dL_law_40 rfl (by decide) (by decide) (show _ = some (962 : Int) from rfl) rfl ?_
    exact lc_surplusValue Cg hs hi hk h aft
  · refine x_tabIn C hc 1027 dL_law_40 rfl (by decide) (by decide) (show _ = some (987 : Int) from rfl) rfl ?_
    exact lc_failedShops Cg hs hi hk h aft
  · refine x_tabIn C hc 1040 dL_law_40 rfl (by decide) (by decide) (show _ = some (1000 : Int) from rfl) rfl ?_
    exact lc_vanOf Cg hs hi hk h aft
  · refine x_tabIn C hc 1065 dL_law_40 rfl (by decide) (by decide) (show _ = some (1025 : Int) from rfl) rfl ?_
    exact lc_arrivalMinute Cg hs hi hk h aft
  · refine x_tabIn C hc 1090 dL_law_40 rfl (by decide) (by decide) (show _ = some (1050 : Int) from rfl) rfl ?_
    exact lc_departureMinute Cg hs hi hk h aft
  · refine x_tabIn C hc 1115 dL_law_40 rfl (by decide) (by decide) (show _ = some (1075 : Int) from rfl) rfl ?_
    exact lc_staleOrders Cg hs hi hk h aft
  · refine x_tabIn C hc 1128 dL_law_40 rfl (by decide) (by decide) (show _ = some (1088 : Int) from rfl) rfl ?_
    exact lc_latestStart Cg hs hi hk h aft
  · refine x_tabIn C hc 1141 dL_law_40 rfl (by decide) (by decide) (show _ = some (1101 : Int) from rfl) rfl ?_
    exact lc_latestStartWith Cg hs hi hk h aft
  · refine x_tabIn C hc 1166 dL_law_40 rfl (by decide) (by decide) (show _ = some (1126 : Int) from rfl) rfl ?_
    exact lc_vitalStreet Cg hs hi hk h aft
  · refine x_tabIn C hc 1179 dL_law_40 rfl (by decide) (by decide) (show _ = some (1139 : Int) from rfl) rfl ?_
    exact lc_setRoom Cg hs hi hk h aft
  · refine x_tabIn C hc 1204 dL_law_40 rfl (by decide) (by decide) (show _ = some (1164 : Int) from rfl) rfl ?_
    by_cases hz : (xs (i + 2)).toInt = 0
    · exact lc_breakOven_0 Cg hs hi hk h hz aft
    · exact lc_breakOven_1 Cg hs hi hk h hz aft
  · refine x_tabIn C hc 1257 dL_law_40 rfl (by decide) (by decide) (show _ = some (1217 : Int) from rfl) rfl ?_
    by_cases hz : (xs (i + 2)).toInt = 0
    · exact lc_closeStreet_0 Cg hs hi hk h hz aft
    · exact lc_closeStreet_1 Cg hs hi hk h hz aft
  · refine x_tabIn C hc 1310 dL_law_40 rfl (by decide) (by decide) (show _ = some (1270 : Int) from rfl) rfl ?_
    exact lc_addOrder Cg hs hi hk h aft
  · refine x_tabIn C hc 1371 dL_law_40 rfl (by decide) (by decide) (show _ = some (1331 : Int) from rfl) rfl ?_
    exact lc_cancelOrder Cg hs hi hk h aft
  · refine x_tabIn C hc 1396 dL_law_40 rfl (by decide) (by decide) (show _ = some (1356 : Int) from rfl) rfl ?_
    exact lc_moveOrder Cg hs hi hk h aft
  · refine x_tabIn C hc 1433 dL_law_40 rfl (by decide) (by decide) (show _ = some (1393 : Int) from rfl) rfl ?_
    exact lc_undo Cg hs hi hk h aft
  · refine x_tabOut C hc 1446 dL_law_40 hc2 rfl ?_
    exact aft σ k z (Nat.le_refl _) (Nat.le_succ _) (Nat.le_refl _) (Nat.le_add_right _ _) ⟨β, Lb, m, B, h⟩
set_option maxHeartbeats 4000000 in
set_option maxRecDepth 100000 in
theorem lw_loop {ρ : Type} {X : xX} {Qf : ρ → State → Prop} {o : Option ρ} {b Ln : Nat} {xs : Nat → Int32} (Cg : xCg X cL_law "BakeryNightLaw" (some .boolean) room_1 7) (hs : lsS X b Ln xs) (hT : XT (xA (xXE X)) (xXs X) (xXs X).heap) (hlt : (xXl X).stackTraces = false) (hE : (xXE X).2.1.2.2 9 0 ≠ 0)
    (fin : ∀ (τ : xS) (i k z : Nat), k ≤ 601024 → z ≤ 7293034 → WO (xat X k z) Qf WW τ 1452 (lL X b i) [] o) : ∀ (d i k z : Nat) (σ : xS), Ln + 6 ≤ i + d → i ≤ Ln + 6 → k ≤ 300 + i → z ≤ 20000 + 8 * i → TI σ → WO (xat X k z) Qf WW σ 23 (lL X b i) [] o := by
  intro d
  induction d with
  | zero =>
    intro i k z σ h1 h2 h3 h4 hTI
    have hL := hs.2.2.2
    have hkk : k ≤ 601024 ∧ z ≤ 7293034 := ⟨by omega, by omega⟩
    have C := Cg k z hkk.1 hkk.2
    have hs1 : lsS (xat X k z) b Ln xs := hs
    refine x_iload C 4 dL_law_23 rfl ?_
    refine x_aload_n C 0 dL_law_25 rfl rfl ?_
    refine x_slen C hs1 dL_law_26 ?_
    refine x_bipush C 6 dL_law_27 rfl ?_
    refine x_isub C dL_law_29 ?_
    exact x_icmp_gt C 1452 (zI_of (by omega) (by omega)) (zI_of (by omega) (by omega)) dL_law_30 rfl (fun _ => fin σ i k z hkk.1 hkk.2) (fun c => absurd (show (Ln : Int) - 6 < (i : Int) by omega) c)
  | succ d ih =>
    intro i k z σ h1 h2 h3 h4 hTI
    have hL := hs.2.2.2
    have hkk : k ≤ 601024 ∧ z ≤ 7293034 := ⟨by omega, by omega⟩
    have C := Cg k z hkk.1 hkk.2
    have hs1 : lsS (xat X k z) b Ln xs := hs
    refine x_iload C 4 dL_law_23 rfl ?_
    refine x_aload_n C 0 dL_law_25 rfl rfl ?_
    refine x_slen C hs1 dL_law_26 ?_
    refine x_bipush C 6 dL_law_27 rfl ?_
    refine x_isub C dL_law_29 ?_
    refine x_icmp_gt C 1452 (zI_of (by omega) (by omega)) (zI_of (by omega) (by omega)) dL_law_30 rfl (fun _ => fin σ i k z hkk.1 hkk.2) (fun c => ?_)
    have hi : i + 6 ≤ Ln := by omega
    refine x_aload_n C 0 dL_law_33 rfl rfl ?_
    refine x_iload C 4 dL_law_34 rfl ?_
    refine x_sld C hs1 i rfl (by omega) dL_law_36 ?_
    refine x_bipush C 63 dL_law_37 rfl ?_
    refine x_iand C dL_law_39 ?_
    obtain ⟨β, Lb, m, B, h⟩ := hTI
    refine lw_turn Cg hs hi ⟨by omega, by omega⟩ hT hlt hE h ?_ _
    intro τ k' z' a1 a2 a3 a4 hTI
    have C' := Cg k' z' (show k' ≤ 601024 by omega) (show z' ≤ 7293034 by omega)
    refine x_iinc C' 4 ((i + 6 : Nat) : Int) dL_law_1446 rfl (by omega) (by decide) rfl ?_
    refine x_goto C' 23 dL_law_1449 rfl ?_
    refine x_pick [1, 2, 3, 4, 0] rfl ?_
    exact ih (i + 6) k' z' τ (by omega) (by omega) (by omega) (by omega) hTI
