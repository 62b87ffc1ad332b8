/-! the class alone: what is asked of a night -/
section CLS3
variable {σ τ : xS} {n b : Nat} {β γ : Nat → Int} {f e : Int}
theorem c_hasDough (hB : Bk σ b β e) (hV : V β) {p : Int} (h1 : -2147483648 ≤ p) (h2 : p < 2147483648) : m_X1_hasDough b p σ = if 0 ≤ p ∧ p < β 4 then 1 else 0 := by
  obtain ⟨b0, b1, b2, b3, b4, b5, b6, b7, b8, b9, bd, bo, bs, bv, br⟩ := hB
  obtain ⟨v0, v1, v2, v3, v4, v5, v6, v7, v8, v9, vd, vo, vs, vv, vr⟩ := hV
  unfold m_X1_hasDough
  simp (disch := omega) only [zI_of, b4]
  by_cases q1 : p < 0
  · rw [if_pos q1, if_neg (by omega)]
  · rw [if_neg q1]
    by_cases q2 : β 4 ≤ p
    · rw [if_pos q2, if_neg (by omega)]
    · rw [if_neg q2, if_pos (by omega)]
theorem c_hasOven (hB : Bk σ b β e) (hV : V β) {p : Int} (h1 : -2147483648 ≤ p) (h2 : p < 2147483648) : m_X1_hasOven b p σ = if 0 ≤ p ∧ p < β 5 then 1 else 0 := by
  obtain ⟨b0, b1, b2, b3, b4, b5, b6, b7, b8, b9, bd, bo, bs, bv, br⟩ := hB
  obtain ⟨v0, v1, v2, v3, v4, v5, v6, v7, v8, v9, vd, vo, vs, vv, vr⟩ := hV
  unfold m_X1_hasOven
  simp (disch := omega) only [zI_of, b5]
  by_cases q1 : p < 0
  · rw [if_pos q1, if_neg (by omega)]
  · rw [if_neg q1]
    by_cases q2 : β 5 ≤ p
    · rw [if_pos q2, if_neg (by omega)]
    · rw [if_neg q2, if_pos (by omega)]
theorem c_hasShop (hB : Bk σ b β e) (hV : V β) {p : Int} (h1 : -2147483648 ≤ p) (h2 : p < 2147483648) : m_X1_hasShop b p σ = if 0 ≤ p ∧ p < β 6 then 1 else 0 := by
  obtain ⟨b0, b1, b2, b3, b4, b5, b6, b7, b8, b9, bd, bo, bs, bv, br⟩ := hB
  obtain ⟨v0, v1, v2, v3, v4, v5, v6, v7, v8, v9, vd, vo, vs, vv, vr⟩ := hV
  unfold m_X1_hasShop
  simp (disch := omega) only [zI_of, b6]
  by_cases q1 : p < 0
  · rw [if_pos q1, if_neg (by omega)]
  · rw [if_neg q1]
    by_cases q2 : β 6 ≤ p
    · rw [if_pos q2, if_neg (by omega)]
    · rw [if_neg q2, if_pos (by omega)]
theorem blN (h : CB σ β) : ((bl β).length : Int) = allF β := (bl_len h.2.1).1
theorem a_count (h : CB σ β) (hN : CNt σ β f) (hn : 4000000 ≤ n) : m_X12_batchCount n σ = some (((bl β).length : Nat) : Int) := by
  rw [c_batchCount h.1 h.2.1 hn, if_pos hN.1, blN h]
theorem a_spoiled (h : CB σ β) (hN : CNt σ β f) (hn : 4000000 ≤ n) : m_X12_spoiledCount n σ = some (spF β ((Mf (prm β)).1)) := by
  have hP := prm_V h.2.1 hN.1
  unfold m_X12_spoiledCount
  rw [hN.2.2.1, xj_eq, zI_of (n := 1) (by omega) (by omega), if_neg (by omega), c_spoiledBatches hN.2.2.2.1.1 hP (Mf_NB h.2.1 hN.1) hn hN.2.1]
  rfl
theorem a_baking (h : CB σ β) (hN : CNt σ β f) (hn : 4000000 ≤ n) (h5 : 0 < β 5) : m_X12_bakingMinutes n 0 σ = some (bmF β ((Mf (prm β)).1) 0) := by
  have hP := prm_V h.2.1 hN.1
  have := c_minutesBakedIn (o := 0) hN.2.2.2.1.1 hP (Mf_NB h.2.1 hN.1) (FN_Mf h.2.1 hN.1) hn hN.2.1 (by omega)
  unfold m_X12_bakingMinutes
  rw [hN.2.2.1, xj_eq, zI_of (n := 1) (by omega) (by omega), if_neg (by omega), c_hasOven h.1 h.2.1 (by omega) (by omega), if_pos (show (0 : Int) ≤ 0 ∧ 0 < β 5 by omega), if_neg (by omega)]
  rw [show (0 : Int) = ((0 : Nat) : Int) from rfl, this]
  rfl
theorem a_wait0 (h : CB σ β) (hN : CNt σ β f) (hn : 4000000 ≤ n) : m_X12_waitingMinutes n 0 σ = some (wmF (prm β) ((Mf (prm β)).1)) := by
  have hP := prm_V h.2.1 hN.1
  unfold m_X12_waitingMinutes
  rw [hN.2.2.1, xj_eq, zI_of (n := 1) (by omega) (by omega), if_neg (by omega), c_isPlace (by omega) (by omega), if_pos (show (0 : Int) ≤ 0 ∧ (0 : Int) < 3 by omega), if_neg (by omega), c_waited0 hN.2.2.2.1.1 hP (FN_Mf h.2.1 hN.1) hn]
  rfl
theorem a_wait3 (hN : CNt σ β f) : m_X12_waitingMinutes n 3 σ = some (-1) := by
  unfold m_X12_waitingMinutes
  rw [hN.2.2.1, xj_eq, zI_of (n := 1) (by omega) (by omega), if_neg (by omega), c_isPlace (by omega) (by omega), if_neg (show ¬ ((0 : Int) ≤ 3 ∧ (3 : Int) < 3) by omega), if_pos rfl]
theorem a_chg1 (h : CB σ β) (hN : CNt σ β f) (h5 : β 5 = 1) : m_X12_changingMinutes 1 σ = some (-1) := by
  unfold m_X12_changingMinutes
  rw [hN.2.2.1, xj_eq, zI_of (n := 1) (by omega) (by omega), if_neg (by omega), c_hasOven h.1 h.2.1 (by omega) (by omega), if_neg (show ¬ ((0 : Int) ≤ 1 ∧ 1 < β 5) by omega), if_pos rfl]
theorem a_ready (h : CB σ β) (hN : CNt σ β f) {o : Nat} (ho : (o : Int) < β 9) : m_X12_readyMinute (o : Int) σ = some (shF f (rdyF β ((Mf (prm β)).1) o)) := by
  have v9 := h.2.1.2.2.2.2.2.2.2.2.2.1
  unfold m_X12_readyMinute
  rw [hN.2.2.1, zI_of (n := 1) (by omega) (by omega), if_neg (by omega), c_hasOrderN h.1 h.2.1 ho, bind_some', xj_eq]
  by_cases c4 : oF β o 4 = 0
  · rw [if_pos c4, zI_of (n := 1) (by omega) (by omega), if_neg (by omega), zI_of (n := (o : Int)) (by omega) (by omega), xck_of (by omega) (by omega), tn_cast, (hN.2.2.2.1.2.2 o ho).1]
  · have e : rdyF β ((Mf (prm β)).1) o = -1 := if_neg c4
    rw [if_neg c4, zI_of (n := 0) (by omega) (by omega), if_pos rfl, e]
    rfl
theorem a_hasBatch (h : CB σ β) (hN : CNt σ β f) {b : Nat} (hb : b < (bl β).length) : m_X4_hasBatch 118 (b : Int) σ = 1 := by
  have h6 : (bl β).length ≤ 60 := (prm_V h.2.1 hN.1).2.2.1
  unfold m_X4_hasBatch
  rw [hN.2.2.2.1.1.2.1, zI_of (n := (b : Int)) (by omega) (by omega), if_neg (by omega), zI_of (n := ((bl β).length : Int)) (by omega) (by omega), if_neg (by omega)]
theorem a_stage (h : CB σ β) (hN : CNt σ β f) {b r : Nat} (hb : b < (bl β).length) (hr : r < 6) : m_X12_stageMinute (b : Int) (r : Int) σ = some (bgF (prm β) f ((Mf (prm β)).1) r b) := by
  have h6 : (bl β).length ≤ 60 := (prm_V h.2.1 hN.1).2.2.1
  unfold m_X12_stageMinute
  rw [hN.2.2.1, zI_of (n := 1) (by omega) (by omega), if_neg (by omega), a_hasBatch h hN hb, if_neg (by omega), zI_of (n := (r : Int)) (by omega) (by omega), if_neg (by omega), if_pos (by omega), zI_of (n := (b : Int)) (by omega) (by omega), xck_of (by omega) (by omega), xck_of (by omega) (by omega), tn_cast, tn_cast, hN.2.2.2.1.1.2.2.2.1 b hb r hr]
theorem a_oven (h : CB σ β) (hN : CNt σ β f) {b : Nat} (hb : b < (bl β).length) : m_X12_ovenOf (b : Int) σ = some ((Mf (prm β)).1 4 b) := by
  have h6 : (bl β).length ≤ 60 := (prm_V h.2.1 hN.1).2.2.1
  unfold m_X12_ovenOf
  rw [hN.2.2.1, zI_of (n := 1) (by omega) (by omega), if_neg (by omega), a_hasBatch h hN hb, if_neg (by omega), zI_of (n := (b : Int)) (by omega) (by omega), xck_of (by omega) (by omega), tn_cast, (hN.2.2.2.1.1.2.2.2.2.1 b hb).1]
theorem a_dough0 (h : CB σ β) (hN : CNt σ β f) (hb : 0 < (bl β).length) : m_X12_batchDough 0 σ = some (lG (bl β) 0) := by
  have hh := a_hasBatch h hN hb
  unfold m_X12_batchDough
  rw [hN.2.2.1, zI_of (n := 1) (by omega) (by omega), if_neg (by omega)]
  rw [show (0 : Int) = ((0 : Nat) : Int) from rfl, hh, if_neg (by omega), zI_of (n := ((0 : Nat) : Int)) (by omega) (by omega), xck_of (by omega) (by omega), tn_cast, hN.2.2.2.1.1.2.2.1 0 hb]
theorem a_ordered (h : CB σ β) (hn : 4000000 ≤ n) (h4 : 0 < β 4) : m_X12_orderedLoaves n 0 σ = some (loavesF β 0) := by
  unfold m_X12_orderedLoaves
  rw [c_hasDough h.1 h.2.1 (by omega) (by omega), xj_eq, if_pos (show (0 : Int) ≤ 0 ∧ 0 < β 4 by omega), if_neg (by omega), c_loavesOf h.1 h.2.1 hn (by omega) (by omega)]
  rfl
theorem a_left (h : CB σ β) (hN : CNt σ β f) (hn : 4000000 ≤ n) (h4 : 0 < β 4) : m_X12_surplusLoaves n 0 σ = some (loF β ((Mf (prm β)).1) 0) := by
  have hP := prm_V h.2.1 hN.1
  have := c_leftOver (d := 0) h.1 h.2.1 hP hN.2.2.2.1.1 (Mf_NB h.2.1 hN.1) hn hN.2.1 (by omega)
  unfold m_X12_surplusLoaves
  rw [hN.2.2.1, xj_eq, zI_of (n := 1) (by omega) (by omega), if_neg (by omega), c_hasDough h.1 h.2.1 (by omega) (by omega), if_pos (show (0 : Int) ≤ 0 ∧ 0 < β 4 by omega), if_neg (by omega)]
  rw [show (0 : Int) = ((0 : Nat) : Int) from rfl, this]
  rfl
theorem fn_pos (hF : FN (prm β) ((Mf (prm β)).1)) (hP : PV (prm β)) {b : Nat} (hb : b < (bl β).length) (h : (Mf (prm β)).1 2 b ≠ -1) : 0 ≤ (Mf (prm β)).1 2 b := by
  have hT := hP.1 b hb
  have hFi := hF b hb
  have ep : pE (prm β) ((Mf (prm β)).1) b = (Mf (prm β)).1 1 b + pT (prm β) b 2 + pT (prm β) b 3 := rfl
  rcases hFi.2.2 with z | z
  · exact absurd z.1 h
  · have := hFi.2.1
    omega
theorem sv_0 (hV : V β) (h60 : allF β ≤ 60) (hf : 0 ≤ f) {d : Nat} (hd : (d : Int) < β 4) : svF β ((Mf (prm β)).1) (0 - f) d = 0 := by
  have hP := prm_V hV h60
  have hF := FN_Mf hV h60
  have vd := hV.2.2.2.2.2.2.2.2.2.2.1 d hd
  have hlb := loavesF_bd hV (d : Int)
  have hlf : loF β ((Mf (prm β)).1) d = max 0 (cbF β ((Mf (prm β)).1) d (bl β).length * dF β d 7 - loavesF β d) := rfl
  unfold svF
  by_cases c : loF β ((Mf (prm β)).1) d = 0
  · rw [if_pos c]
  · rw [if_neg c]
    have hlt : loavesF β d < cbF β ((Mf (prm β)).1) d (bl β).length * dF β d 7 := by omega
    obtain ⟨i, hi, hb⟩ := cb_find hlb.1 _ hlt
    have hne : takI β ((Mf (prm β)).1) d (loavesF β d) < (bl β).length := by
      have hle := firstTo_le (fun b => bkB β ((Mf (prm β)).1) d b && decide (loavesF β d < cbF β ((Mf (prm β)).1) d (b + 1) * dF β d 7)) (bl β).length
      rcases Nat.lt_or_ge (takI β ((Mf (prm β)).1) d (loavesF β d)) (bl β).length with z | z
      · exact z
      · have := firstTo_none.mp (Nat.le_antisymm hle z) i hi
        rw [hb] at this
        cases this
    have hat := firstTo_at _ _ hne
    have hbk := bk_iff.mp ((Bool.and_eq_true _ _).mp hat).1
    have hT := hP.1 _ hne
    have hFi := hF _ hne
    have h2 := hbk.2
    have hk : takF β ((Mf (prm β)).1) d (loavesF β d) = (Mf (prm β)).1 2 (takI β ((Mf (prm β)).1) d (loavesF β d)) + pT (prm β) (takI β ((Mf (prm β)).1) d (loavesF β d)) 5 := if_pos hne
    have hv : vlF β d (0 - f - takF β ((Mf (prm β)).1) d (loavesF β d)) = 0 := by
      unfold vlF
      rw [if_neg]
      have h0 := fn_pos hF hP hne h2
      intro z
      have z1 := z.1
      omega
    rw [hv, Int.mul_zero]
theorem a_value (h : CB σ β) (hN : CNt σ β f) (hn : 4000000 ≤ n) : m_X12_surplusValue n 0 σ = some 0 := by
  have b4 := h.1.2.2.2.2.1
  have v4 := h.2.1.2.2.2.2.1
  unfold m_X12_surplusValue
  rw [hN.2.2.1, xj_eq, zI_of (n := 1) (by omega) (by omega), if_neg (by omega), zI_of (n := 0) (by omega) (by omega), if_neg (by omega), if_pos (by omega)]
  refine loop_eq (β 4).toNat (fun i => (0, (i : Int))) rfl ?_ ?_ (by omega)
  · intro i hi rec
    dsimp only
    have hs := sv_0 (f := f) h.2.1 hN.1 hN.2.1.1 (d := i) (by omega)
    simp (disch := omega) only [zI_of (n := (i : Int)), zI_of (n := β 4), b4, if_neg, c_leftOverCents (p := 0) h.1 h.2.1 hN.1 hN.2.2.2.1.1 hn hN.2.1 (d := i) (by omega) (by omega), bind_some', xlet_eq, hs]
    rfl
  · intro rec
    dsimp only
    rw [b4, zI_of (by omega) (by omega), zI_of (by omega) (by omega), if_pos (by omega)]
end CLS3
