/-! questions of both: when an order is ready -/
section OUT4
variable {σ : xS} {k q b n : Nat} {β : Nat → Int} {e f t : Int} {N : Nat → Nat → Int} {M : NS}
theorem cb_mono {d i k : Nat} (h : i ≤ k) : cbF β N d i ≤ cbF β N d k := sumTo_more (fun b => by split <;> omega) h
theorem takF_none {d : Nat} {l : Int} (hs : 0 ≤ dF β d 7) (h : cbF β N d (bl β).length * dF β d 7 ≤ l) : takF β N d l = -1 := by
  have e : takI β N d l = (bl β).length := firstTo_none.mpr fun i hi => by
    have h1 := Int.mul_le_mul_of_nonneg_right (cb_mono (β := β) (N := N) (d := d) (i := i + 1) (k := (bl β).length) (by omega)) hs
    rw [decide_eq_false (by omega), Bool.and_false]
  unfold takF
  rw [e, if_neg (Nat.lt_irrefl _)]
theorem r_readyAt (hk : 185 ≤ k ∧ k ≤ 187) (hs : σ k = β) (hV : V β) (h60 : allF β ≤ 60) (hG : RG σ β) (hn : 4000000 ≤ n) {o : Nat} (ho : (o : Int) < β 9) : m_X13_readyAt n k o σ = some (rdyF β (Mf (prm β)).1 o) := by
  have hP := prm_V hV h60
  have hF := FN_Mf hV h60
  have v9 := hV.2.2.2.2.2.2.2.2.2.1
  have v1 := hV.2.1
  have vr := hV.2.2.2.2.2.2.2.2.2.2.2.2.2.2 o ho
  have hah := aheadF_bd hV o
  have hme := r_isMeant (σ := σ) (k := k) (i := o) (by rw [hs]; exact hV) (by rw [hs]; exact ho)
  have hga := r_givenAhead (σ := σ) (k := k) (n := n) (j := o) (by rw [hs]; exact hV) hn (by rw [hs]; exact ho)
  have ho1 := r_order1 (σ := σ) (k := k) (i := o) (by omega)
  have ho2 := r_order2 (σ := σ) (k := k) (i := o) (by omega)
  rw [hs] at hme hga ho1 ho2
  unfold m_X13_readyAt m_X13_isReady rdyF
  rw [hme, bind_some']
  by_cases c : oF β o 4 = 0
  · have hd4 : 0 ≤ oF β o 1 ∧ oF β o 1 < β 4 := by omega
    obtain ⟨d, hd⟩ : ∃ d : Nat, (d : Int) = oF β o 1 := ⟨(oF β o 1).toNat, by omega⟩
    have vd := hV.2.2.2.2.2.2.2.2.2.2.1 d (by omega)
    have hbl := r_bakedLoaves hk hs hV hP hG hF hn (d := d) (by omega)
    have hmb := mul_bd (cbF_bd (N := (Mf (prm β)).1) hP d (k := (bl β).length) (Nat.le_refl _)) (y := dF β d 7) (by omega)
    rw [if_pos c, if_pos c, zI_of (n := 1) (by omega) (by omega), hga, ho2, ho1, ← hd, tn_cast]
    simp (disch := omega) only [xj_eq, bind_some', hbl, if_neg, zI_of (n := cbF β (Mf (prm β)).1 d (bl β).length * dF β d 7), zI_of (n := aheadF β o + oF β o 2)]
    by_cases c2 : cbF β (Mf (prm β)).1 d (bl β).length * dF β d 7 < aheadF β o + oF β o 2
    · rw [if_pos c2, xbo_0, bind_some', zI_of (by omega) (by omega), if_pos rfl, takF_none (by omega) (by omega), if_pos rfl]
    · have hoa := r_outAt hk hs hV h60 hG hn (d := d) (by omega) (l := aheadF β o + oF β o 2 - 1) (by omega) (by omega)
      obtain ⟨t1, -, -⟩ := takF_spec hP (Mf_I hV h60) hF (d := d) (l := aheadF β o + oF β o 2 - 1) (by omega) (by omega) (by omega)
      rw [if_neg c2, xbo_1, bind_some', zI_of (n := 1) (by omega) (by omega), if_neg (by omega), hoa, bind_some', if_neg (by omega)]
      simp (disch := omega) only [xck_of, tn_lit, hs]
  · rw [if_neg c, if_neg c, zI_of (n := 0) (by omega) (by omega)]
    simp (disch := omega) only [xj_eq, xbo_0]
    rw [if_pos trivial, bind_some', zI_of (n := 0) (by omega) (by omega), if_pos rfl]
theorem rdyF_bd (hV : V β) (h60 : allF β ≤ 60) {o : Nat} (ho : (o : Int) < β 9) : -1 ≤ rdyF β (Mf (prm β)).1 o ∧ rdyF β (Mf (prm β)).1 o ≤ 300000 := by
  have hb := takF_bd (prm_V hV h60) (Mf_NB hV h60) (oF β o 1).toNat (aheadF β o + oF β o 2 - 1)
  have v1 := hV.2.1
  unfold rdyF
  split
  · split <;> omega
  · omega
theorem q_readyMinute (hT : NT σ β e) (hn : 4000000 ≤ n) {p : Int} (h1 : -2147483648 ≤ p) (h2 : p < 2147483648) : SAME σ (m_X12_readyMinute p σ) (m_X13_readyMinute n p σ) := by
  have hT' := hT
  obtain ⟨hB, hβ, hV, -⟩ := hT
  have v9 := hV.2.2.2.2.2.2.2.2.2.1
  unfold m_X12_readyMinute m_X13_readyMinute
  refine SAME_night hT' hn (fun h60 hf hRF hF => ?_)
  rw [c_hasOrder hB hV h1 h2, bind_some', xj_eq]
  by_cases c : 0 ≤ p ∧ p < β 9
  · obtain ⟨o, rfl⟩ : ∃ o : Nat, p = (o : Int) := ⟨p.toNat, by omega⟩
    have hbd := rdyF_bd hV h60 c.2
    have hr : ∀ s, RG s β → s 185 = β → s 184 6 = σ 184 6 → (xck 9 289 <| if (m_X13_isIn (zI (o : Int)) 0 ((zI (s 185 (9 : Int).toNat)) - 1)) = 0 then some ((-1), s) else (m_X13_readyAt n 185 o s).bind fun v5 => xlet (if (zI v5) = (-1) then (-1) else (s 184 6) + v5) fun v6 => some (v6, s)) = some (shF (σ 184 6) (rdyF β (Mf (prm β)).1 o), s) := fun s hG hs h6 => by
      rw [hs]
      simp (disch := omega) only [xck_of, tn_lit, zI_of (n := (o : Int)), zI_of (n := β 9), r_isIn, if_pos, if_neg, r_readyAt (k := 185) (by omega) hs hV h60 hG hn c.2, bind_some', xlet_eq, zI_of (n := rdyF β (Mf (prm β)).1 o), h6]
      unfold shF
      by_cases z : rdyF β (Mf (prm β)).1 o = -1
      · rw [if_pos z, if_pos z]
      · rw [if_neg z, if_neg z, Int.add_comm]
    have hsh : -1 ≤ shF (σ 184 6) (rdyF β (Mf (prm β)).1 o) ∧ shF (σ 184 6) (rdyF β (Mf (prm β)).1 o) ≤ 400000 := by
      unfold shF
      split <;> omega
    refine ⟨shF (σ 184 6) (rdyF β (Mf (prm β)).1 o), ?_, by omega, by omega, hr⟩
    rw [tn_cast]
    by_cases c4 : oF β o 4 = 0
    · have e1 : (if 0 ≤ (o : Int) ∧ (o : Int) < β 9 ∧ oF β o 4 = 0 then (1 : Int) else 0) = 1 := if_pos ⟨c.1, c.2, c4⟩
      rw [e1, zI_of (n := 1) (by omega) (by omega), if_neg (by omega), zI_of (n := (o : Int)) (by omega) (by omega), xck_of (by omega) (by omega), tn_cast, (hRF.2.2 o c.2).1]
    · have e : rdyF β (Mf (prm β)).1 o = -1 := if_neg c4
      have e1 : (if 0 ≤ (o : Int) ∧ (o : Int) < β 9 ∧ oF β o 4 = 0 then (1 : Int) else 0) = 0 := if_neg (fun z => c4 z.2.2)
      rw [e1, zI_of (n := 0) (by omega) (by omega), if_pos rfl, e]
      rfl
  · refine ⟨-1, ?_, by omega, by omega, fun s hG hs h6 => ?_⟩
    · have e1 : (if 0 ≤ p ∧ p < β 9 ∧ oF β p.toNat 4 = 0 then (1 : Int) else 0) = 0 := if_neg (fun z => c ⟨z.1, z.2.1⟩)
      rw [e1, zI_of (n := 0) (by omega) (by omega), if_pos rfl]
    · rw [hs]
      simp (disch := omega) only [xck_of, tn_lit, zI_of (n := p), zI_of (n := β 9), r_isIn]
      rw [if_pos (by rw [if_neg (by omega)])]
end OUT4
