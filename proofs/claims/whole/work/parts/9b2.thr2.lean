/-! THROWERS: the words of their throws -/
abbrev XIS : String := "java/lang/IllegalStateException"
abbrev XIB : String := "java/lang/IndexOutOfBoundsException"
def xt_big : List Cond := tables_1_6 ++ (tables_1_1 ++ (tables_1_2 ++ (tables_1_5 ++ k2_sels lw_privs_4)))
set_option maxRecDepth 100000 in
set_option maxHeartbeats 4000000 in
theorem xt_big_in : ∀ w ∈ xt_big, goodWord w = true → w ∈ GW := by
  intro w hw hg
  unfold xt_big at hw
  rcases List.mem_append.mp hw with h | h
  · obtain ⟨i, hi⟩ := List.mem_iff_getElem?.mp h
    exact gwt5 i hi hg
  rcases List.mem_append.mp h with h | h
  · obtain ⟨i, hi⟩ := List.mem_iff_getElem?.mp h
    exact gwt0 i hi hg
  rcases List.mem_append.mp h with h | h
  · obtain ⟨i, hi⟩ := List.mem_iff_getElem?.mp h
    exact gwt1 i hi hg
  rcases List.mem_append.mp h with h | h
  · obtain ⟨i, hi⟩ := List.mem_iff_getElem?.mp h
    exact gwt4 i hi hg
  · obtain ⟨i, hi⟩ := List.mem_iff_getElem?.mp h
    exact gwp3 i hi hg
set_option maxRecDepth 100000 in
set_option maxHeartbeats 4000000 in
theorem xt_at_IS0 : ((vx_atS "BakeryNight" 166 XIS XNl).filter goodWord).all (fun w => decide (w ∈ xt_big)) = true := by decide +kernel
set_option maxRecDepth 100000 in
set_option maxHeartbeats 4000000 in
theorem xt_at_IB0 : ((vx_atS "BakeryNight" 176 XIB XNl).filter goodWord).all (fun w => decide (w ∈ xt_big)) = true := by decide +kernel
theorem xt_at_IS : ∀ w ∈ (vx_atS "BakeryNight" 166 XIS XNl).filter goodWord, w ∈ GW := fun w hw => xt_big_in w (of_decide_eq_true (List.all_eq_true.mp xt_at_IS0 w hw)) (List.mem_filter.mp hw).2
theorem xt_at_IB : ∀ w ∈ (vx_atS "BakeryNight" 176 XIB XNl).filter goodWord, w ∈ GW := fun w hw => xt_big_in w (of_decide_eq_true (List.all_eq_true.mp xt_at_IB0 w hw)) (List.mem_filter.mp hw).2
set_option maxRecDepth 100000 in
theorem xt_bad_IS : ∀ w ∈ (vx_atS "BakeryNight" 166 XIS XNl).filter (fun w => !goodWord w), w ∈ Jvm.Cond.castable XIS XIS :: XDl.map Jvm.Cond.declares := fun w hw => of_decide_eq_true (List.all_eq_true.mp (show ((vx_atS "BakeryNight" 166 XIS XNl).filter (fun w => !goodWord w)).all (fun w => decide (w ∈ Jvm.Cond.castable XIS XIS :: XDl.map Jvm.Cond.declares)) = true by decide +kernel) w hw)
set_option maxRecDepth 100000 in
theorem xt_bad_IB : ∀ w ∈ (vx_atS "BakeryNight" 176 XIB XNl).filter (fun w => !goodWord w), w ∈ Jvm.Cond.castable XIB XIB :: XDl.map Jvm.Cond.declares := fun w hw => of_decide_eq_true (List.all_eq_true.mp (show ((vx_atS "BakeryNight" 176 XIB XNl).filter (fun w => !goodWord w)).all (fun w => decide (w ∈ Jvm.Cond.castable XIB XIB :: XDl.map Jvm.Cond.declares)) = true by decide +kernel) w hw)
set_option maxRecDepth 100000 in
theorem xt_gd_IS : (Cond.classLink "BakeryNight" 162 XIS :: Cond.initialized XIS :: vx_atS "BakeryNight" 166 XIS XNl).all vx_ot = true := by decide +kernel
set_option maxRecDepth 100000 in
theorem xt_gd_IB : (Cond.classLink "BakeryNight" 172 XIB :: Cond.initialized XIB :: vx_atS "BakeryNight" 176 XIB XNl).all vx_ot = true := by decide +kernel
