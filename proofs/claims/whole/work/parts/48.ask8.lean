/-! questions of both that need no night -/
section ASK8
variable {σ : xS} {k q b n : Nat} {β : Nat → Int} {e f t : Int} {N : Nat → Nat → Int} {M : NS}
theorem SAME_told (hβ : σ 185 = β) {C : Option Int} {R : xS → Option (Int × xS)} {v : Int} (hc : C = some v) (h1 : -2147483648 ≤ v) (h2 : v < 2147483648) (hr : ∀ s, s 185 = β → (∀ j, j ≠ 7 → s 184 j = σ 184 j) → R s = some (v, s)) : SAME σ C (xlet (xput σ 184 7 0) R) := by
  refine ⟨v, hc, h1, h2, ?_⟩
  rw [xlet_eq, hr _ (by rw [xput_ne1 (by omega)]; exact hβ) (fun j hj => xput_ne (by omega))]
  exact OK_some ⟨rfl, (xput_eq : (xput σ 184 7 0) 184 7 = 0), fun a j h => (xput_ne (by omega) : (xput σ 184 7 0) a j = σ a j)⟩
theorem q_orderCount (hT : NT σ β e) : SAME σ (some (m_X12_orderCount σ)) (m_X13_orderCount σ) := by
  obtain ⟨hB, hβ, hV, -⟩ := hT
  have v9 := hV.2.2.2.2.2.2.2.2.2.1
  have b9 := hB.2.2.2.2.2.2.2.2.2.1
  unfold m_X12_orderCount m_X13_orderCount
  refine SAME_told (v := β 9) hβ (by rw [b9]) (by omega) (by omega) (fun s hs h => ?_)
  rw [hs, xck_of (by omega) (by omega)]
  rfl
theorem q_batchCount (hT : NT σ β e) (hn : 4000000 ≤ n) : SAME σ (m_X12_batchCount n σ) (m_X13_batchCount n σ) := by
  obtain ⟨hB, hβ, hV, -⟩ := hT
  have hall := allF_bd hV
  unfold m_X12_batchCount m_X13_batchCount
  refine SAME_told (v := if allF β ≤ 60 then allF β else -3) hβ ?_ (by split <;> omega) (by split <;> omega) (fun s hs h => ?_)
  · rw [c_batchesNeeded hB hV hn, bind_some', zI_of (by omega) (by omega), xlet_eq]
  · have ha := r_allBatches (σ := s) (k := 185) (n := n) (by rw [hs]; exact hV) hn
    rw [hs] at ha
    rw [ha, bind_some', zI_of (by omega) (by omega), xlet_eq]
theorem r_isDoughB {s : xS} (hs : s 185 = β) (hV : V β) {p : Int} (h1 : -2147483648 ≤ p) (h2 : p < 2147483648) : m_X13_isDough p s = some (if 0 ≤ p ∧ p < β 4 then 1 else 0) := by
  have h := r_isDough (σ := s) (p := p) (by rw [hs]; exact hV) h1 h2
  rw [hs] at h
  exact h
theorem q_orderedLoaves (hT : NT σ β e) (hn : 4000000 ≤ n) {p : Int} (h1 : -2147483648 ≤ p) (h2 : p < 2147483648) : SAME σ (m_X12_orderedLoaves n p σ) (m_X13_orderedLoaves n p σ) := by
  obtain ⟨hB, hβ, hV, -⟩ := hT
  have v4 := hV.2.2.2.2.1
  unfold m_X12_orderedLoaves m_X13_orderedLoaves
  rw [c_hasDough hB hV h1 h2, xj_eq]
  by_cases c : 0 ≤ p ∧ p < β 4
  · have hlb := loavesF_bd hV p
    refine SAME_told (v := loavesF β p) hβ ?_ (by omega) (by omega) (fun s hs h => ?_)
    · rw [if_pos c, if_neg (by omega), c_loavesOf hB hV hn c.1 (by omega)]
      rfl
    · have hlo := r_loavesOf (σ := s) (k := 185) (n := n) (d := p) (by rw [hs]; exact hV) hn (by omega) (by omega)
      rw [hs] at hlo
      rw [r_isDoughB hs hV h1 h2, if_pos c, bind_some', xj_eq, zI_of (n := 1) (by omega) (by omega), if_neg (by omega), hlo, bind_some']
  · refine SAME_told (v := -1) hβ ?_ (by omega) (by omega) (fun s hs h => ?_)
    · rw [if_neg c, if_pos rfl]
    · rw [r_isDoughB hs hV h1 h2, if_neg c, bind_some', xj_eq, zI_of (n := 0) (by omega) (by omega), if_pos rfl]
theorem q_risingMinutes (hT : NT σ β e) {p w : Int} (h1 : -2147483648 ≤ p) (h2 : p < 2147483648) (h3 : w = 0 ∨ w = 1) : SAME σ (m_X12_risingMinutes p w σ) (m_X13_risingMinutes p w σ) := by
  obtain ⟨hB, hβ, hV, -⟩ := hT
  have v4 := hV.2.2.2.2.1
  have v0 := hV.1
  unfold m_X12_risingMinutes m_X13_risingMinutes
  rw [c_hasDough hB hV h1 h2, xj_eq]
  by_cases c : 0 ≤ p ∧ p < β 4
  · obtain ⟨d, rfl⟩ : ∃ d : Nat, p = (d : Int) := ⟨p.toNat, by omega⟩
    have vd := hV.2.2.2.2.2.2.2.2.2.2.1 d c.2
    have hbd := hB.2.2.2.2.2.2.2.2.2.2.1 d c.2
    rcases h3 with rfl | rfl
    · have hsl := slow_bd (m := dF β d 1) (y := β 0) (by omega) (by omega) v0.1 v0.2
      refine SAME_told (v := upD (24 * dF β d 1) (β 0)) hβ ?_ (by omega) (by omega) (fun s hs h => ?_)
      · rw [if_pos c, if_neg (by omega), zI_of (n := 0) (by omega) (by omega), if_pos rfl, zI_of (n := (d : Int)) (by omega) (by omega), xck_of (by omega) (by omega), tn_cast, hbd 1 (by omega)]
        show (m_X1_inThisRoom (bkA (σ 0 3)) (dF β d 1) σ).bind (fun v6 => some v6) = _
        rw [c_inThisRoom hB hV (by omega) (by omega)]
        rfl
      · have hd := r_dough1 (σ := s) (k := 185) (i := d) (by omega)
        have hsw := r_slowed (σ := s) (k := 185) (m := dF β d 1) (by rw [hs]; exact hV) (by omega) (by omega)
        rw [hs] at hd hsw
        rw [r_isDoughB hs hV h1 h2, if_pos c, bind_some', xj_eq, zI_of (n := 1) (by omega) (by omega), if_neg (by omega), zI_of (n := 0) (by omega) (by omega), if_pos rfl, xlet_eq, hd, bind_some', hsw, bind_some']
    · have hsl := slow_bd (m := dF β d 3) (y := β 0) (by omega) (by omega) v0.1 v0.2
      refine SAME_told (v := upD (24 * dF β d 3) (β 0)) hβ ?_ (by omega) (by omega) (fun s hs h => ?_)
      · rw [if_pos c, if_neg (by omega), zI_of (n := 1) (by omega) (by omega), if_neg (by omega), zI_of (n := (d : Int)) (by omega) (by omega), xck_of (by omega) (by omega), tn_cast, hbd 3 (by omega)]
        show (m_X1_inThisRoom (bkA (σ 0 3)) (dF β d 3) σ).bind (fun v6 => some v6) = _
        rw [c_inThisRoom hB hV (by omega) (by omega)]
        rfl
      · have hd := r_dough3 (σ := s) (k := 185) (i := d) (by omega)
        have hsw := r_slowed (σ := s) (k := 185) (m := dF β d 3) (by rw [hs]; exact hV) (by omega) (by omega)
        rw [hs] at hd hsw
        rw [r_isDoughB hs hV h1 h2, if_pos c, bind_some', xj_eq, zI_of (n := 1) (by omega) (by omega), if_neg (by omega), if_neg (by omega), xlet_eq, hd, bind_some', hsw, bind_some']
  · refine SAME_told (v := -1) hβ ?_ (by omega) (by omega) (fun s hs h => ?_)
    · rw [if_neg c, if_pos rfl]
    · rw [r_isDoughB hs hV h1 h2, if_neg c, bind_some', xj_eq, zI_of (n := 0) (by omega) (by omega), if_pos rfl]
end ASK8
