/-! THROWERS: the law's methods that catch -/
abbrev rmL : Room := { frames := 7, cells := 1, slots := 6, locals := 104 }
section WLT
variable {l : Launch} {E : xE} {σ : xS} {p1 p2 : Int}
abbrev hhL_batchDough : List (Nat × Nat × Nat × Nat) := [(0, 9, 12, 13), (0, 9, 15, 15)]
theorem hcL_batchDough : Cond.codeWith yL_batchDough cL_batchDough 4 (some .int) hhL_batchDough ∈ GW := gwt5 34 (by decide +kernel) rfl
set_option maxHeartbeats 4000000 in
set_option maxRecDepth 100000 in
theorem ct_L_batchDough {e : Int ⊕ String} (he : ∀ q, e = .inr q → q = XIS ∨ q = XIB) (hM : ∀ (l : Launch), l.stackTraces = false → ∀ E : xE, E.2.1.2.2 9 0 ≠ 0 → xMeX l E yX12_batchDough cX12_batchDough 2 (some .int) rmT [.ref (xqa E.2.2 0), iV p1] WW σ (match e with | .inl v => .inl (some (iV v), σ) | .inr q => .inr q)) (hlt : l.stackTraces = false) (hE : E.2.1.2.2 9 0 ≠ 0) : xMeW l E yL_batchDough cL_batchDough 4 (some .int) hhL_batchDough rmL [.ref (xqa E.2.2 0), iV p1, .ref (xqa E.2.2 215)] WW σ (match e with | .inl v => (some (iV 0), xput σ 215 0 (zI v)) | .inr q => (some (iV (if q = XIS then 1 else 2)), σ)) := by
  refine xMeW.of (by decide) (Nat.le_of_ble_eq_true rfl) (fun X hE1 hl htab Cg hT => ?_)
  subst hE1
  subst hl
  have C := Cg 0 0 (Nat.zero_le _) (Nat.zero_le _)
  have C1 := Cg (0 + 1) (0 + 6) (Nat.le_refl _) (Nat.le_refl _)
  refine x_aload_n C 2 dL_batchDough_0 rfl rfl ?_
  refine x_iconst C (0) dL_batchDough_1 rfl ?_
  refine x_aload_n C 0 dL_batchDough_2 rfl rfl ?_
  refine x_iload_n C 1 dL_batchDough_3 rfl rfl ?_
  refine x_callVT (st := [iV 0, .ref (xqa (xXE X).2.2 215)]) Cg ⟨Nat.le_refl _, Nat.le_refl _⟩ hT (hM (xXl X) hlt (xXE X) hE) mt_X12_batchDough vr_X12_batchDough wd1387 cls_X12 at_X12 rfl ⟨Nat.le_of_ble_eq_true rfl, Nat.le_of_ble_eq_true rfl⟩ rfl (Nat.le_of_ble_eq_true rfl) dL_batchDough_4 (fun v hv => ?_) (fun q hq => ?_)
  · cases e with
    | inr q => cases hv
    | inl x =>
      cases hv
      refine x_i2l C1 dL_batchDough_7 ?_
      refine xt_ck (⟨by decide, by decide⟩ : 0 ≤ (0 : Int) ∧ (0 : Int) < ((1 : Nat) : Int)) (x_last C1 (k := 215) (n := 1) (i := 0) ⟨by decide, rfl⟩ (by decide) dL_batchDough_8 (fun _ => ?_))
      refine x_goto C1 18 dL_batchDough_9 rfl ?_
      refine x_iconst C1 (0) dL_batchDough_18 rfl ?_
      exact x_iretG Cg (Nat.le_refl _) (Nat.le_refl _) dL_batchDough_19
  · cases e with
    | inl x => cases hq
    | inr q0 =>
      cases hq
      obtain ⟨t1, t2, t3, t4, t5⟩ := hT
      rcases he q rfl with rfl | rfl
      · refine x_catch (name := XIS) C1 [] ⟨0, 9, 12, 13⟩ [⟨0, 9, 15, 15⟩] htab (fun _ h => nomatch h) (by decide) (by decide) wd1385 (t4 _ (by decide)) (fun a => ?_)
        refine x_astore_n C1 dL_batchDough_12 rfl (by decide) rfl ?_
        refine x_iconst C1 (1) dL_batchDough_13 rfl ?_
        exact x_iretG Cg (Nat.le_refl _) (Nat.le_refl _) dL_batchDough_14
      · refine x_catch (name := XIB) C1 [⟨0, 9, 12, 13⟩] ⟨0, 9, 15, 15⟩ [] htab (fun z hz => ?_) (by decide) (by decide) wd1386 (t4 _ (by decide)) (fun a => ?_)
        · rw [List.mem_singleton] at hz
          subst hz
          exact Or.inr ⟨by decide, XIS, wd1385, t5⟩
        · refine x_astore_n C1 dL_batchDough_15 rfl (by decide) rfl ?_
          refine x_iconst C1 (2) dL_batchDough_16 rfl ?_
          exact x_iretG Cg (Nat.le_refl _) (Nat.le_refl _) dL_batchDough_17
abbrev hhL_stageMinute : List (Nat × Nat × Nat × Nat) := [(0, 10, 13, 13), (0, 10, 17, 15)]
theorem hcL_stageMinute : Cond.codeWith yL_stageMinute cL_stageMinute 5 (some .int) hhL_stageMinute ∈ GW := gwt5 129 (by decide +kernel) rfl
set_option maxHeartbeats 4000000 in
set_option maxRecDepth 100000 in
theorem ct_L_stageMinute {e : Int ⊕ String} (he : ∀ q, e = .inr q → q = XIS ∨ q = XIB) (hM : ∀ (l : Launch), l.stackTraces = false → ∀ E : xE, E.2.1.2.2 9 0 ≠ 0 → xMeX l E yX12_stageMinute cX12_stageMinute 3 (some .int) rmT [.ref (xqa E.2.2 0), iV p1, iV p2] WW σ (match e with | .inl v => .inl (some (iV v), σ) | .inr q => .inr q)) (hlt : l.stackTraces = false) (hE : E.2.1.2.2 9 0 ≠ 0) : xMeW l E yL_stageMinute cL_stageMinute 5 (some .int) hhL_stageMinute rmL [.ref (xqa E.2.2 0), iV p1, iV p2, .ref (xqa E.2.2 215)] WW σ (match e with | .inl v => (some (iV 0), xput σ 215 0 (zI v)) | .inr q => (some (iV (if q = XIS then 1 else 2)), σ)) := by
  refine xMeW.of (by decide) (Nat.le_of_ble_eq_true rfl) (fun X hE1 hl htab Cg hT => ?_)
  subst hE1
  subst hl
  have C := Cg 0 0 (Nat.zero_le _) (Nat.zero_le _)
  have C1 := Cg (0 + 1) (0 + 6) (Nat.le_refl _) (Nat.le_refl _)
  refine x_aload_n C 3 dL_stageMinute_0 rfl rfl ?_
  refine x_iconst C (0) dL_stageMinute_1 rfl ?_
  refine x_aload_n C 0 dL_stageMinute_2 rfl rfl ?_
  refine x_iload_n C 1 dL_stageMinute_3 rfl rfl ?_
  refine x_iload_n C 2 dL_stageMinute_4 rfl rfl ?_
  refine x_callVT (st := [iV 0, .ref (xqa (xXE X).2.2 215)]) Cg ⟨Nat.le_refl _, Nat.le_refl _⟩ hT (hM (xXl X) hlt (xXE X) hE) mt_X12_stageMinute vr_X12_stageMinute wd1480 cls_X12 at_X12 rfl ⟨Nat.le_of_ble_eq_true rfl, Nat.le_of_ble_eq_true rfl⟩ rfl (Nat.le_of_ble_eq_true rfl) dL_stageMinute_5 (fun v hv => ?_) (fun q hq => ?_)
  · cases e with
    | inr q => cases hv
    | inl x =>
      cases hv
      refine x_i2l C1 dL_stageMinute_8 ?_
      refine xt_ck (⟨by decide, by decide⟩ : 0 ≤ (0 : Int) ∧ (0 : Int) < ((1 : Nat) : Int)) (x_last C1 (k := 215) (n := 1) (i := 0) ⟨by decide, rfl⟩ (by decide) dL_stageMinute_9 (fun _ => ?_))
      refine x_goto C1 21 dL_stageMinute_10 rfl ?_
      refine x_iconst C1 (0) dL_stageMinute_21 rfl ?_
      exact x_iretG Cg (Nat.le_refl _) (Nat.le_refl _) dL_stageMinute_22
  · cases e with
    | inl x => cases hq
    | inr q0 =>
      cases hq
      obtain ⟨t1, t2, t3, t4, t5⟩ := hT
      rcases he q rfl with rfl | rfl
      · refine x_catch (name := XIS) C1 [] ⟨0, 10, 13, 13⟩ [⟨0, 10, 17, 15⟩] htab (fun _ h => nomatch h) (by decide) (by decide) wd1385 (t4 _ (by decide)) (fun a => ?_)
        refine x_astore C1 dL_stageMinute_13 (by decide) rfl ?_
        refine x_iconst C1 (1) dL_stageMinute_15 rfl ?_
        exact x_iretG Cg (Nat.le_refl _) (Nat.le_refl _) dL_stageMinute_16
      · refine x_catch (name := XIB) C1 [⟨0, 10, 13, 13⟩] ⟨0, 10, 17, 15⟩ [] htab (fun z hz => ?_) (by decide) (by decide) wd1386 (t4 _ (by decide)) (fun a => ?_)
        · rw [List.mem_singleton] at hz
          subst hz
          exact Or.inr ⟨by decide, XIS, wd1385, t5⟩
        · refine x_astore C1 dL_stageMinute_17 (by decide) rfl ?_
          refine x_iconst C1 (2) dL_stageMinute_19 rfl ?_
          exact x_iretG Cg (Nat.le_refl _) (Nat.le_refl _) dL_stageMinute_20
abbrev hhL_ovenOf : List (Nat × Nat × Nat × Nat) := [(0, 9, 12, 13), (0, 9, 15, 15)]
theorem hcL_ovenOf : Cond.codeWith yL_ovenOf cL_ovenOf 4 (some .int) hhL_ovenOf ∈ GW := gwt5 137 (by decide +kernel) rfl
set_option maxHeartbeats 4000000 in
set_option maxRecDepth 100000 in
theorem ct_L_ovenOf {e : Int ⊕ String} (he : ∀ q, e = .inr q → q = XIS ∨ q = XIB) (hM : ∀ (l : Launch), l.stackTraces = false → ∀ E : xE, E.2.1.2.2 9 0 ≠ 0 → xMeX l E yX12_ovenOf cX12_ovenOf 2 (some .int) rmT [.ref (xqa E.2.2 0), iV p1] WW σ (match e with | .inl v => .inl (some (iV v), σ) | .inr q => .inr q)) (hlt : l.stackTraces = false) (hE : E.2.1.2.2 9 0 ≠ 0) : xMeW l E yL_ovenOf cL_ovenOf 4 (some .int) hhL_ovenOf rmL [.ref (xqa E.2.2 0), iV p1, .ref (xqa E.2.2 215)] WW σ (match e with | .inl v => (some (iV 0), xput σ 215 0 (zI v)) | .inr q => (some (iV (if q = XIS then 1 else 2)), σ)) := by
  refine xMeW.of (by decide) (Nat.le_of_ble_eq_true rfl) (fun X hE1 hl htab Cg hT => ?_)
  subst hE1
  subst hl
  have C := Cg 0 0 (Nat.zero_le _) (Nat.zero_le _)
  have C1 := Cg (0 + 1) (0 + 6) (Nat.le_refl _) (Nat.le_refl _)
  refine x_aload_n C 2 dL_ovenOf_0 rfl rfl ?_
  refine x_iconst C (0) dL_ovenOf_1 rfl ?_
  refine x_aload_n C 0 dL_ovenOf_2 rfl rfl ?_
  refine x_iload_n C 1 dL_ovenOf_3 rfl rfl ?_
  refine x_callVT (st := [iV 0, .ref (xqa (xXE X).2.2 215)]) Cg ⟨Nat.le_refl _, Nat.le_refl _⟩ hT (hM (xXl X) hlt (xXE X) hE) mt_X12_ovenOf vr_X12_ovenOf wd1488 cls_X12 at_X12 rfl ⟨Nat.le_of_ble_eq_true rfl, Nat.le_of_ble_eq_true rfl⟩ rfl (Nat.le_of_ble_eq_true rfl) dL_ovenOf_4 (fun v hv => ?_) (fun q hq => ?_)
  · cases e with
    | inr q => cases hv
    | inl x =>
      cases hv
      refine x_i2l C1 dL_ovenOf_7 ?_
      refine xt_ck (⟨by decide, by decide⟩ : 0 ≤ (0 : Int) ∧ (0 : Int) < ((1 : Nat) : Int)) (x_last C1 (k := 215) (n := 1) (i := 0) ⟨by decide, rfl⟩ (by decide) dL_ovenOf_8 (fun _ => ?_))
      refine x_goto C1 18 dL_ovenOf_9 rfl ?_
      refine x_iconst C1 (0) dL_ovenOf_18 rfl ?_
      exact x_iretG Cg (Nat.le_refl _) (Nat.le_refl _) dL_ovenOf_19
  · cases e with
    | inl x => cases hq
    | inr q0 =>
      cases hq
      obtain ⟨t1, t2, t3, t4, t5⟩ := hT
      rcases he q rfl with rfl | rfl
      · refine x_catch (name := XIS) C1 [] ⟨0, 9, 12, 13⟩ [⟨0, 9, 15, 15⟩] htab (fun _ h => nomatch h) (by decide) (by decide) wd1385 (t4 _ (by decide)) (fun a => ?_)
        refine x_astore_n C1 dL_ovenOf_12 rfl (by decide) rfl ?_
        refine x_iconst C1 (1) dL_ovenOf_13 rfl ?_
        exact x_iretG Cg (Nat.le_refl _) (Nat.le_refl _) dL_ovenOf_14
      · refine x_catch (name := XIB) C1 [⟨0, 9, 12, 13⟩] ⟨0, 9, 15, 15⟩ [] htab (fun z hz => ?_) (by decide) (by decide) wd1386 (t4 _ (by decide)) (fun a => ?_)
        · rw [List.mem_singleton] at hz
          subst hz
          exact Or.inr ⟨by decide, XIS, wd1385, t5⟩
        · refine x_astore_n C1 dL_ovenOf_15 rfl (by decide) rfl ?_
          refine x_iconst C1 (2) dL_ovenOf_16 rfl ?_
          exact x_iretG Cg (Nat.le_refl _) (Nat.le_refl _) dL_ovenOf_17
end WLT
