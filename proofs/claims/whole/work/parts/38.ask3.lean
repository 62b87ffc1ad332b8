/-! questions of both: baking, waiting, simulating -/
section ASK3
variable {σ : xS} {q b n : Nat} {β : Nat → Int} {e f t : Int} {N : Nat → Nat → Int} {M : NS}
theorem FN_Mf (hV : V β) (h60 : allF β ≤ 60) : FN (prm β) (Mf (prm β)).1 := FN_of (n0 := 124001) (prm_V hV h60) (Nat.le_refl _) (Mf_I hV h60) (Mf_done (prm_V hV h60))
theorem SAME_night (hT : NT σ β e) (hn : 4000000 ≤ n) {C : Option Int} {R : xS → Option (Int × xS)} (h : allF β ≤ 60 → (0 ≤ σ 184 6 ∧ σ 184 6 ≤ 1439) → RF σ 118 β (σ 184 6) → FN (prm β) (Mf (prm β)).1 → ∃ v, C = some v ∧ -2147483648 ≤ v ∧ v < 2147483648 ∧ ∀ s, RG s β → s 185 = β → s 184 6 = σ 184 6 → R s = some (v, s)) :
    SAME σ (if (zI (σ 0 8)) = 0 then some (-2) else C) (xbS (m_X13_isNight n σ) fun v2 s1 => if (zI v2) = 0 then some ((-2), s1) else R s1) := by
  have hT' := hT
  obtain ⟨hB, hβ, hV, h4⟩ := hT
  rcases h4 with ⟨z1, z2⟩ | ⟨z1, z2, h60, hf, hRF⟩
  · refine ⟨-2, ?_, by omega, by omega, ?_⟩
    · rw [z1, zI_of (by omega) (by omega), if_pos rfl]
    · refine OK_xbS (r_isNight hβ hV (NT_h5 hT') hn) (fun v s h => ?_)
      obtain ⟨g1, g2, g3, g4⟩ := h
      dsimp only at g1 g2 g3 g4
      rw [g1, z2, zI_of (by omega) (by omega), if_pos rfl]
      exact OK_some ⟨rfl, g3, g4⟩
  · obtain ⟨v, w1, w2, w3, w4⟩ := h h60 hf hRF (FN_Mf hV h60)
    refine ⟨v, ?_, w2, w3, ?_⟩
    · rw [z1, zI_of (by omega) (by omega), if_neg (by omega)]
      exact w1
    · refine OK_xbS (r_isNight hβ hV (NT_h5 hT') hn) (fun v' s h => ?_)
      obtain ⟨g1, g2, g3, g4⟩ := h
      dsimp only at g1 g2 g3 g4
      rw [g1, z2, zI_of (by omega) (by omega), if_neg (by omega), w4 s (g2 z2).1 (by rw [← hβ]; funext j; exact g4 _ _ (by omega)) (g4 _ _ (by omega))]
      exact OK_some ⟨rfl, g3, g4⟩
theorem bmF_bd (hP : PV (prm β)) (o : Nat) : 0 ≤ bmF β N o ∧ bmF β N o ≤ 120 * 60 := by
  have h60 : (bl β).length ≤ 60 := hP.2.2.1
  have h := sumTo_bd (n := (bl β).length) (f := fun b => if N 4 b = o then pT (prm β) b 5 else 0) (lo := 0) (hi := 120) (fun i hi => by
    have := hP.1 i hi
    split <;> omega)
  unfold bmF
  omega
theorem q_bakingMinutes (hT : NT σ β e) (hn : 4000000 ≤ n) {p : Int} (h1 : -2147483648 ≤ p) (h2 : p < 2147483648) : SAME σ (m_X12_bakingMinutes n p σ) (m_X13_bakingMinutes n p σ) := by
  have hT' := hT
  obtain ⟨hB, hβ, hV, -⟩ := hT
  have v5 := hV.2.2.2.2.2.1
  unfold m_X12_bakingMinutes m_X13_bakingMinutes
  refine SAME_night hT' hn (fun h60 hf hRF hF => ?_)
  have hP := prm_V hV h60
  have hN := Mf_NB hV h60
  have hb60 : (bl β).length ≤ 60 := hP.2.2.1
  have hr : ∀ s : xS, s 185 = β → m_X13_isOven p s = some (if 0 ≤ p ∧ p < β 5 then 1 else 0) := fun s e => by
    have h := r_isOven (σ := s) (p := p) (by rw [e]; exact hV) h1 h2
    rw [e] at h
    exact h
  rw [c_hasOven hB hV h1 h2]
  by_cases c : 0 ≤ p ∧ p < β 5
  · obtain ⟨o, rfl⟩ : ∃ o : Nat, p = (o : Int) := ⟨p.toNat, by omega⟩
    have hbd := bmF_bd (N := (Mf (prm β)).1) hP o
    refine ⟨bmF β (Mf (prm β)).1 o, ?_, by omega, by omega, fun s hG hs h6 => ?_⟩
    · rw [if_pos c, xj_eq, if_neg (by omega), c_minutesBakedIn hRF.1 hP hN hF hn hf (by omega)]
      rfl
    · rw [hr s hs, if_pos c, bind_some', zI_of (by omega) (by omega), if_neg (by omega)]
      refine loop_eq (bl β).length (fun i => (sumTo i (fun b => if (Mf (prm β)).1 4 b = o then pT (prm β) b 5 else 0), (i : Int))) rfl ?_ ?_ (by omega)
      · intro i hi rec
        have h19 := hG.1
        obtain ⟨g1, g2, g3, g4⟩ := hG.2.1 i hi
        have hN4 := hN.2.1 i hi
        have hv : pv (prm β) ≤ 4 := hP.2.2.2.1
        have hd := bl_d hV hi
        have v4 := hV.2.2.2.2.1
        have hd5 := r_dough5 (σ := s) (k := 185) (i := (bl β).getD i 0) (by omega)
        rw [hs] at hd5
        have e5 : dF β ((bl β).getD i 0) 5 = pT (prm β) i 5 := rfl
        rw [e5] at hd5
        have h192 : s 192 i = (((bl β).getD i 0 : Nat) : Int) := g1
        dsimp only
        rw [sumTo]
        simp (disch := omega) only [zI_of (n := (i : Int)), zI_of (n := ((bl β).length : Int)), zI_of (n := (o : Int)), zI_of (n := (Mf (prm β)).1 4 i), h19, if_neg, xck_of, tn_cast, xlet_eq, xj_eq, g4, h192, hd5, bind_some']
        by_cases c4 : (Mf (prm β)).1 4 i = o
        · rw [if_pos c4, if_pos c4]; rfl
        · rw [if_neg c4, if_neg c4]; rfl
      · intro rec
        have h19 := hG.1
        dsimp only
        simp (disch := omega) only [zI_of, h19, if_pos]
        rfl
  · refine ⟨-1, by rw [if_neg c, xj_eq, if_pos rfl], by omega, by omega, fun s hG hs h6 => ?_⟩
    rw [hr s hs, if_neg c, bind_some', zI_of (by omega) (by omega), if_pos rfl]
theorem wt_bd (hP : PV (prm β)) (hF : FN (prm β) N) : (0 ≤ wmF (prm β) N ∧ wmF (prm β) N ≤ 7500000) ∧ (0 ≤ wbF (prm β) N ∧ wbF (prm β) N ≤ 7500000) ∧ (0 ≤ woF (prm β) N ∧ woF (prm β) N ≤ 7500000) := by
  have h60 : pn (prm β) ≤ 60 := hP.2.2.1
  have w0 := sumTo_bd (n := pn (prm β)) (f := fun b => if N 0 b ≠ -1 then N 0 b else 0) (lo := 0) (hi := 125000) (fun i hi => by
    have := hF i hi
    split <;> omega)
  have w1 := sumTo_bd (n := pn (prm β)) (f := fun b => if N 1 b ≠ -1 then N 1 b - rE (prm β) N b else 0) (lo := 0) (hi := 125000) (fun i hi => by
    have h := hF i hi
    have hT := hP.1 i hi
    have er : rE (prm β) N i = N 0 i + pT (prm β) i 0 + pT (prm β) i 1 := rfl
    split <;> omega)
  have w2 := sumTo_bd (n := pn (prm β)) (f := fun b => if N 2 b ≠ -1 then N 2 b - pE (prm β) N b else if N 3 b ≠ -1 then N 3 b - pE (prm β) N b else 0) (lo := 0) (hi := 125000) (fun i hi => by
    have h := hF i hi
    have hT := hP.1 i hi
    split
    · omega
    · split <;> omega)
  unfold wmF wbF woF
  omega
theorem c_isPlace {p : Int} (h1 : -2147483648 ≤ p) (h2 : p < 2147483648) : m_X4_isPlace p = if 0 ≤ p ∧ p < 3 then 1 else 0 := by
  unfold m_X4_isPlace
  rw [zI_of h1 h2]
  split
  · rw [if_neg (by omega)]
  · split
    · rw [if_neg (by omega)]
    · rw [if_pos (by omega)]
theorem q_waitingMinutes (hT : NT σ β e) (hn : 4000000 ≤ n) {p : Int} (h1 : -2147483648 ≤ p) (h2 : p < 2147483648) : SAME σ (m_X12_waitingMinutes n p σ) (m_X13_waitingMinutes n p σ) := by
  have hT' := hT
  obtain ⟨hB, hβ, hV, -⟩ := hT
  unfold m_X12_waitingMinutes m_X13_waitingMinutes
  refine SAME_night hT' hn (fun h60 hf hRF hF => ?_)
  have hP := prm_V hV h60
  have hbd := wt_bd hP hF
  have hz : zI p = p := zI_of h1 h2
  rw [c_isPlace h1 h2, hz, xj_eq]
  by_cases c : 0 ≤ p ∧ p < 3
  · rw [if_pos c, if_neg (by omega)]
    have c3 : p = 0 ∨ p = 1 ∨ p = 2 := by omega
    rcases c3 with rfl | rfl | rfl
    · exact ⟨wmF (prm β) (Mf (prm β)).1, by rw [c_waited0 hRF.1 hP hF hn]; rfl, by omega, by omega, fun s hG hs h6 => by rw [xlet_eq, if_pos rfl, hG.2.2.2.2.1]⟩
    · exact ⟨wbF (prm β) (Mf (prm β)).1, by rw [c_waited1 hRF.1 hP hF hn]; rfl, by omega, by omega, fun s hG hs h6 => by rw [xlet_eq, if_neg (by omega), if_pos rfl, hG.2.2.2.2.2.1]⟩
    · exact ⟨woF (prm β) (Mf (prm β)).1, by rw [c_waited2 hRF.1 hP hF hn hf]; rfl, by omega, by omega, fun s hG hs h6 => by rw [xlet_eq, if_neg (by omega), if_neg (by omega), if_pos rfl, hG.2.2.2.2.2.2]⟩
  · refine ⟨-1, ?_, by omega, by omega, fun s hG hs h6 => by rw [xlet_eq, if_neg (by omega), if_neg (by omega), if_neg (by omega)]⟩
    rw [if_neg c, if_pos rfl]
end ASK3
