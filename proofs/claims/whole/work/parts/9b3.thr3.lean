/-! THROWERS of the class -/
abbrev rmT : Room := { frames := 6, cells := 1, slots := 6, locals := 82 }
theorem hb_01 (k : Nat) (p : Int) (σ : xS) : m_X4_hasBatch k p σ = 0 ∨ m_X4_hasBatch k p σ = 1 := by
  unfold m_X4_hasBatch
  split
  · exact Or.inl rfl
  · split
    · exact Or.inl rfl
    · exact Or.inr rfl
theorem xt_ck {ρ : Type} {X : xX} {Qf : ρ → State → Prop} {w : xW} {σ : xS} {pc : Nat} {L : List (Nat × Value)} {st : List Value} {o : Option ρ} {i : Int} {n : Nat} (hb : 0 ≤ i ∧ i < (n : Int)) (k : WO X Qf w σ pc L st (xck i n o)) : WO X Qf w σ pc L st o := by
  unfold xck at k
  rw [if_pos hb] at k
  exact k
section WT
variable {X : xX} {σ : xS} {p1 p2 : Int}
set_option maxHeartbeats 4000000 in
set_option maxRecDepth 100000 in
theorem wt_X12_batchDough {r : xR} (C : xCx X cX12_batchDough "BakeryNight" (some .int) rmT 2) (hk : xXk X = 0 ∧ xXz X = 0) (hlt : (xXl X).stackTraces = false) (ht : ∀ x ∈ (xXc X).exceptionTable.toList, False) (hT : XT (xA (xXE X)) (xXs X) (xXs X).heap) (hE : (xXE X).2.1.2.2 9 0 ≠ 0)
    (h0 : zI (σ 0 8) = 0 → r = .inr XIS) (h1 : zI (σ 0 8) ≠ 0 → m_X4_hasBatch 118 p1 σ = 0 → r = .inr XIB) (h2 : zI (σ 0 8) ≠ 0 → m_X4_hasBatch 118 p1 σ ≠ 0 → (0 ≤ zI p1 ∧ zI p1 < ((60 : Nat) : Int)) ∧ r = .inl (some (iV (σ (118 + 1) (zI p1).toNat)), σ)) : WO X (xQfT X WW σ rmT) WW σ 0 [(0, .ref (xqa (xXE X).2.2 0)), (1, iV p1)] [] (some r) := by
  have hroom : 6 ≤ rmT.frames ∧ 82 ≤ rmT.locals ∧ xXk X + 1 ≤ rmT.cells ∧ xXz X + 6 ≤ rmT.slots := ⟨Nat.le_refl _, Nat.le_refl _, by rw [hk.1]; exact Nat.le_refl _, by rw [hk.2]; exact Nat.le_refl _⟩
  refine x_aload_n C 0 dX12_batchDough_0 rfl rfl ?_
  refine x_get (v := iV (σ 0 8)) C 8 cls_X12 at_X12 (by decide) wd683 rfl rfl dX12_batchDough_1 ?_
  refine x_if_ne C 17 rfl dX12_batchDough_4 rfl (fun c1 => ?_) (fun c1 => ?_)
  · refine x_aload_n C 0 dX12_batchDough_17 rfl rfl ?_
    refine x_get (v := .ref (xqa (xXE X).2.2 118)) C 6 cls_X12 at_X12 (by decide) wd681 rfl (xV_r (rt_X12_night  _) rfl) dX12_batchDough_18 ?_
    refine x_iload_n C 1 dX12_batchDough_21 rfl rfl ?_
    refine x_callV C (ct_X4_hasBatch _ _ 118 p1 σ (Or.inl rfl)) mt_X4_hasBatch vr_X4_hasBatch wd1457 cls_X4 (at_X4 (Or.inl rfl)) rfl ⟨rfl, rfl, Nat.le_of_ble_eq_true rfl, Nat.le_of_ble_eq_true rfl⟩ rfl (by decide) dX12_batchDough_22 (kP ?_)
    have hz := hb_01 118 p1 σ
    refine x_if_ne C 38 (x' := m_X4_hasBatch 118 p1 σ) (by rcases hz with e | e <;> rw [e] <;> decide) dX12_batchDough_25 rfl (fun c2 => ?_) (fun c2 => ?_)
    · obtain ⟨hb, rfl⟩ := h2 c1 c2
      refine x_aload_n C 0 dX12_batchDough_38 rfl rfl ?_
      refine x_get (v := .ref (xqa (xXE X).2.2 118)) C 6 cls_X12 at_X12 (by decide) wd681 rfl (xV_r (rt_X12_night  _) rfl) dX12_batchDough_39 ?_
      refine x_get (v := .ref (xqa (xXE X).2.2 (118 + 1))) C 3 cls_X4 (at_X4 (Or.inl rfl)) (by decide) wd556 rfl (xV_r (rt_X4_dough (Or.inl rfl) _) rfl) dX12_batchDough_42 ?_
      refine x_iload_n C 1 dX12_batchDough_45 rfl rfl ?_
      refine xt_ck hb (x_iald C (at_X4_dough (Or.inl rfl)) rfl dX12_batchDough_46 (fun _ => ?_))
      exact xt_iret C rfl dX12_batchDough_47
    · obtain rfl := h1 c1 c2
      exact xt_throw C hlt ht hT hE (by decide) (is := 174) (text := "no such batch") (by decide) wd1461 wd178 xt_at_IB xt_bad_IB xt_gd_IB hroom dX12_batchDough_28 dX12_batchDough_31 dX12_batchDough_32 dX12_batchDough_34 dX12_batchDough_37
  · obtain rfl := h0 c1
    exact xt_throw C hlt ht hT hE (by decide) (is := 164) (text := "no night is simulated") (by decide) wd1391 wd177 xt_at_IS xt_bad_IS xt_gd_IS hroom dX12_batchDough_7 dX12_batchDough_10 dX12_batchDough_11 dX12_batchDough_13 dX12_batchDough_16
theorem ct_X12_batchDough {l : Launch} {E : xE} {r : xR} (hlt : l.stackTraces = false) (hE : E.2.1.2.2 9 0 ≠ 0) (h0 : zI (σ 0 8) = 0 → r = .inr XIS) (h1 : zI (σ 0 8) ≠ 0 → m_X4_hasBatch 118 p1 σ = 0 → r = .inr XIB) (h2 : zI (σ 0 8) ≠ 0 → m_X4_hasBatch 118 p1 σ ≠ 0 → (0 ≤ zI p1 ∧ zI p1 < ((60 : Nat) : Int)) ∧ r = .inl (some (iV (σ (118 + 1) (zI p1).toNat)), σ)) : xMeX l E yX12_batchDough cX12_batchDough 2 (some .int) rmT [.ref (xqa E.2.2 0), iV p1] WW σ r := by
  refine xMeX.of (by decide) (Nat.le_of_ble_eq_true rfl) (fun X hE1 hk hz hl ht C hT => ?_)
  subst hE1
  subst hl
  exact wt_X12_batchDough C ⟨hk, hz⟩ hlt ht hT hE h0 h1 h2
theorem mt_X12_batchDough : xMth yX12_batchDough cX12_batchDough 2 (some .int) 1 := ⟨wd1390, wd151, ⟨by decide, by decide, rfl⟩⟩
theorem vr_X12_batchDough : xVir yX12_batchDough := ⟨wd1388, wd1389⟩
set_option maxHeartbeats 4000000 in
set_option maxRecDepth 100000 in
theorem wt_X12_stageMinute {r : xR} (C : xCx X cX12_stageMinute "BakeryNight" (some .int) rmT 3) (hk : xXk X = 0 ∧ xXz X = 0) (hlt : (xXl X).stackTraces = false) (ht : ∀ x ∈ (xXc X).exceptionTable.toList, False) (hT : XT (xA (xXE X)) (xXs X) (xXs X).heap) (hE : (xXE X).2.1.2.2 9 0 ≠ 0)
    (h0 : zI (σ 0 8) = 0 → r = .inr XIS) (h1 : zI (σ 0 8) ≠ 0 → m_X4_hasBatch 118 p1 σ = 0 → r = .inr XIB) (h2 : zI (σ 0 8) ≠ 0 → m_X4_hasBatch 118 p1 σ ≠ 0 → (0 ≤ zI p1 ∧ zI p1 < ((60 : Nat) : Int)) ∧ ((zI p2 < 0 ∨ 6 ≤ zI p2) → r = .inr XIB) ∧ (¬ zI p2 < 0 → ¬ 6 ≤ zI p2 → r = .inl (some (iV (σ (118 + 4 + (zI p2).toNat) (zI p1).toNat)), σ))) : WO X (xQfT X WW σ rmT) WW σ 0 [(0, .ref (xqa (xXE X).2.2 0)), (1, iV p1), (2, iV p2)] [] (some r) := by
  have hroom : 6 ≤ rmT.frames ∧ 82 ≤ rmT.locals ∧ xXk X + 1 ≤ rmT.cells ∧ xXz X + 6 ≤ rmT.slots := ⟨Nat.le_refl _, Nat.le_refl _, by rw [hk.1]; exact Nat.le_refl _, by rw [hk.2]; exact Nat.le_refl _⟩
  refine x_aload_n C 0 dX12_stageMinute_0 rfl rfl ?_
  refine x_get (v := iV (σ 0 8)) C 8 cls_X12 at_X12 (by decide) wd683 rfl rfl dX12_stageMinute_1 ?_
  refine x_if_ne C 17 rfl dX12_stageMinute_4 rfl (fun c1 => ?_) (fun c1 => ?_)
  · refine x_aload_n C 0 dX12_stageMinute_17 rfl rfl ?_
    refine x_get (v := .ref (xqa (xXE X).2.2 118)) C 6 cls_X12 at_X12 (by decide) wd681 rfl (xV_r (rt_X12_night  _) rfl) dX12_stageMinute_18 ?_
    refine x_iload_n C 1 dX12_stageMinute_21 rfl rfl ?_
    refine x_callV C (ct_X4_hasBatch _ _ 118 p1 σ (Or.inl rfl)) mt_X4_hasBatch vr_X4_hasBatch wd1457 cls_X4 (at_X4 (Or.inl rfl)) rfl ⟨rfl, rfl, Nat.le_of_ble_eq_true rfl, Nat.le_of_ble_eq_true rfl⟩ rfl (by decide) dX12_stageMinute_22 (kP ?_)
    have hz := hb_01 118 p1 σ
    refine x_if_ne C 38 (x' := m_X4_hasBatch 118 p1 σ) (by rcases hz with e | e <;> rw [e] <;> decide) dX12_stageMinute_25 rfl (fun c2 => ?_) (fun c2 => ?_)
    · obtain ⟨hb, hx1, hx2⟩ := h2 c1 c2
      refine x_iload_n C 2 dX12_stageMinute_38 rfl rfl ?_
      refine x_if_lt C 48 rfl dX12_stageMinute_39 rfl (fun c3 => ?_) (fun c3 => ?_)
      · obtain rfl := hx1 (Or.inl c3)
        exact xt_throw C hlt ht hT hE (by decide) (is := 181) (text := "no such stage") (by decide) wd1461 wd178 xt_at_IB xt_bad_IB xt_gd_IB hroom dX12_stageMinute_48 dX12_stageMinute_51 dX12_stageMinute_52 dX12_stageMinute_54 dX12_stageMinute_57
      · refine x_iload_n C 2 dX12_stageMinute_42 rfl rfl ?_
        refine x_bipush C 6 dX12_stageMinute_43 rfl ?_
        refine x_icmp_lt C 58 (x' := zI p2) (y' := 6) rfl (by decide) dX12_stageMinute_45 rfl (fun c4 => ?_) (fun c4 => ?_)
        · obtain rfl := hx2 c3 (by omega)
          refine x_aload_n C 0 dX12_stageMinute_58 rfl rfl ?_
          refine x_get (v := .ref (xqa (xXE X).2.2 118)) C 6 cls_X12 at_X12 (by decide) wd681 rfl (xV_r (rt_X12_night  _) rfl) dX12_stageMinute_59 ?_
          refine x_get (v := .ref (xqa (xXE X).2.2 (118 + 3))) C 5 cls_X4 (at_X4 (Or.inl rfl)) (by decide) wd560 rfl (xV_r (rt_X4_begun (Or.inl rfl) _) rfl) dX12_stageMinute_62 ?_
          refine x_iload_n C 2 dX12_stageMinute_65 rfl rfl ?_
          refine xt_ck (⟨by omega, by omega⟩ : 0 ≤ zI p2 ∧ zI p2 < ((6 : Nat) : Int)) (x_aald C (at_X4_begun (Or.inl rfl)) (by decide) rfl (fun h9 => rl_X4_begun (Or.inl rfl) _ h9) dX12_stageMinute_66 (fun h9 => ?_))
          refine x_iload_n C 1 dX12_stageMinute_67 rfl rfl ?_
          refine xt_ck hb (x_iald C (el_X4_begun (Or.inl rfl) h9) rfl dX12_stageMinute_68 (fun _ => ?_))
          exact xt_iret C rfl dX12_stageMinute_69
        · obtain rfl := hx1 (Or.inr (by omega))
          exact xt_throw C hlt ht hT hE (by decide) (is := 181) (text := "no such stage") (by decide) wd1461 wd178 xt_at_IB xt_bad_IB xt_gd_IB hroom dX12_stageMinute_48 dX12_stageMinute_51 dX12_stageMinute_52 dX12_stageMinute_54 dX12_stageMinute_57
    · obtain rfl := h1 c1 c2
      exact xt_throw C hlt ht hT hE (by decide) (is := 174) (text := "no such batch") (by decide) wd1461 wd178 xt_at_IB xt_bad_IB xt_gd_IB hroom dX12_stageMinute_28 dX12_stageMinute_31 dX12_stageMinute_32 dX12_stageMinute_34 dX12_stageMinute_37
  · obtain rfl := h0 c1
    exact xt_throw C hlt ht hT hE (by decide) (is := 164) (text := "no night is simulated") (by decide) wd1391 wd177 xt_at_IS xt_bad_IS xt_gd_IS hroom dX12_stageMinute_7 dX12_stageMinute_10 dX12_stageMinute_11 dX12_stageMinute_13 dX12_stageMinute_16
theorem ct_X12_stageMinute {l : Launch} {E : xE} {r : xR} (hlt : l.stackTraces = false) (hE : E.2.1.2.2 9 0 ≠ 0) (h0 : zI (σ 0 8) = 0 → r = .inr XIS) (h1 : zI (σ 0 8) ≠ 0 → m_X4_hasBatch 118 p1 σ = 0 → r = .inr XIB) (h2 : zI (σ 0 8) ≠ 0 → m_X4_hasBatch 118 p1 σ ≠ 0 → (0 ≤ zI p1 ∧ zI p1 < ((60 : Nat) : Int)) ∧ ((zI p2 < 0 ∨ 6 ≤ zI p2) → r = .inr XIB) ∧ (¬ zI p2 < 0 → ¬ 6 ≤ zI p2 → r = .inl (some (iV (σ (118 + 4 + (zI p2).toNat) (zI p1).toNat)), σ))) : xMeX l E yX12_stageMinute cX12_stageMinute 3 (some .int) rmT [.ref (xqa E.2.2 0), iV p1, iV p2] WW σ r := by
  refine xMeX.of (by decide) (Nat.le_of_ble_eq_true rfl) (fun X hE1 hk hz hl ht C hT => ?_)
  subst hE1
  subst hl
  exact wt_X12_stageMinute C ⟨hk, hz⟩ hlt ht hT hE h0 h1 h2
theorem mt_X12_stageMinute : xMth yX12_stageMinute cX12_stageMinute 3 (some .int) 2 := ⟨wd1483, wd151, ⟨by decide, by decide, rfl⟩⟩
theorem vr_X12_stageMinute : xVir yX12_stageMinute := ⟨wd1481, wd1482⟩
set_option maxHeartbeats 4000000 in
set_option maxRecDepth 100000 in
theorem wt_X12_ovenOf {r : xR} (C : xCx X cX12_ovenOf "BakeryNight" (some .int) rmT 2) (hk : xXk X = 0 ∧ xXz X = 0) (hlt : (xXl X).stackTraces = false) (ht : ∀ x ∈ (xXc X).exceptionTable.toList, False) (hT : XT (xA (xXE X)) (xXs X) (xXs X).heap) (hE : (xXE X).2.1.2.2 9 0 ≠ 0)
    (h0 : zI (σ 0 8) = 0 → r = .inr XIS) (h1 : zI (σ 0 8) ≠ 0 → m_X4_hasBatch 118 p1 σ = 0 → r = .inr XIB) (h2 : zI (σ 0 8) ≠ 0 → m_X4_hasBatch 118 p1 σ ≠ 0 → (0 ≤ zI p1 ∧ zI p1 < ((60 : Nat) : Int)) ∧ r = .inl (some (iV (σ (118 + 2) (zI p1).toNat)), σ)) : WO X (xQfT X WW σ rmT) WW σ 0 [(0, .ref (xqa (xXE X).2.2 0)), (1, iV p1)] [] (some r) := by
  have hroom : 6 ≤ rmT.frames ∧ 82 ≤ rmT.locals ∧ xXk X + 1 ≤ rmT.cells ∧ xXz X + 6 ≤ rmT.slots := ⟨Nat.le_refl _, Nat.le_refl _, by rw [hk.1]; exact Nat.le_refl _, by rw [hk.2]; exact Nat.le_refl _⟩
  refine x_aload_n C 0 dX12_ovenOf_0 rfl rfl ?_
  refine x_get (v := iV (σ 0 8)) C 8 cls_X12 at_X12 (by decide) wd683 rfl rfl dX12_ovenOf_1 ?_
  refine x_if_ne C 17 rfl dX12_ovenOf_4 rfl (fun c1 => ?_) (fun c1 => ?_)
  · refine x_aload_n C 0 dX12_ovenOf_17 rfl rfl ?_
    refine x_get (v := .ref (xqa (xXE X).2.2 118)) C 6 cls_X12 at_X12 (by decide) wd681 rfl (xV_r (rt_X12_night  _) rfl) dX12_ovenOf_18 ?_
    refine x_iload_n C 1 dX12_ovenOf_21 rfl rfl ?_
    refine x_callV C (ct_X4_hasBatch _ _ 118 p1 σ (Or.inl rfl)) mt_X4_hasBatch vr_X4_hasBatch wd1457 cls_X4 (at_X4 (Or.inl rfl)) rfl ⟨rfl, rfl, Nat.le_of_ble_eq_true rfl, Nat.le_of_ble_eq_true rfl⟩ rfl (by decide) dX12_ovenOf_22 (kP ?_)
    have hz := hb_01 118 p1 σ
    refine x_if_ne C 38 (x' := m_X4_hasBatch 118 p1 σ) (by rcases hz with e | e <;> rw [e] <;> decide) dX12_ovenOf_25 rfl (fun c2 => ?_) (fun c2 => ?_)
    · obtain ⟨hb, rfl⟩ := h2 c1 c2
      refine x_aload_n C 0 dX12_ovenOf_38 rfl rfl ?_
      refine x_get (v := .ref (xqa (xXE X).2.2 118)) C 6 cls_X12 at_X12 (by decide) wd681 rfl (xV_r (rt_X12_night  _) rfl) dX12_ovenOf_39 ?_
      refine x_get (v := .ref (xqa (xXE X).2.2 (118 + 2))) C 4 cls_X4 (at_X4 (Or.inl rfl)) (by decide) wd558 rfl (xV_r (rt_X4_oven (Or.inl rfl) _) rfl) dX12_ovenOf_42 ?_
      refine x_iload_n C 1 dX12_ovenOf_45 rfl rfl ?_
      refine xt_ck hb (x_iald C (at_X4_oven (Or.inl rfl)) rfl dX12_ovenOf_46 (fun _ => ?_))
      exact xt_iret C rfl dX12_ovenOf_47
    · obtain rfl := h1 c1 c2
      exact xt_throw C hlt ht hT hE (by decide) (is := 174) (text := "no such batch") (by decide) wd1461 wd178 xt_at_IB xt_bad_IB xt_gd_IB hroom dX12_ovenOf_28 dX12_ovenOf_31 dX12_ovenOf_32 dX12_ovenOf_34 dX12_ovenOf_37
  · obtain rfl := h0 c1
    exact xt_throw C hlt ht hT hE (by decide) (is := 164) (text := "no night is simulated") (by decide) wd1391 wd177 xt_at_IS xt_bad_IS xt_gd_IS hroom dX12_ovenOf_7 dX12_ovenOf_10 dX12_ovenOf_11 dX12_ovenOf_13 dX12_ovenOf_16
theorem ct_X12_ovenOf {l : Launch} {E : xE} {r : xR} (hlt : l.stackTraces = false) (hE : E.2.1.2.2 9 0 ≠ 0) (h0 : zI (σ 0 8) = 0 → r = .inr XIS) (h1 : zI (σ 0 8) ≠ 0 → m_X4_hasBatch 118 p1 σ = 0 → r = .inr XIB) (h2 : zI (σ 0 8) ≠ 0 → m_X4_hasBatch 118 p1 σ ≠ 0 → (0 ≤ zI p1 ∧ zI p1 < ((60 : Nat) : Int)) ∧ r = .inl (some (iV (σ (118 + 2) (zI p1).toNat)), σ)) : xMeX l E yX12_ovenOf cX12_ovenOf 2 (some .int) rmT [.ref (xqa E.2.2 0), iV p1] WW σ r := by
  refine xMeX.of (by decide) (Nat.le_of_ble_eq_true rfl) (fun X hE1 hk hz hl ht C hT => ?_)
  subst hE1
  subst hl
  exact wt_X12_ovenOf C ⟨hk, hz⟩ hlt ht hT hE h0 h1 h2
theorem mt_X12_ovenOf : xMth yX12_ovenOf cX12_ovenOf 2 (some .int) 1 := ⟨wd1491, wd151, ⟨by decide, by decide, rfl⟩⟩
theorem vr_X12_ovenOf : xVir yX12_ovenOf := ⟨wd1489, wd1490⟩
end WT
