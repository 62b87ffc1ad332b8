/-! questions of both: the busiest minute -/
section ASK7
variable {σ : xS} {q b n : Nat} {β : Nat → Int} {e f t : Int} {N : Nat → Nat → Int} {M : NS}
theorem bsQ_keep {s k : Nat} {bm bc : Int} (h : bsQ β N s k bm bc) (hx : N s k ≠ -1 → inN β N s (N s k) ≤ bc ∧ (inN β N s (N s k) = bc → 0 < bc → bm ≤ N s k)) : bsQ β N s (k + 1) bm bc := by
  rcases h with ⟨b1, b2, b3⟩ | ⟨b1, ⟨i, b2, b3, b4⟩, b5, b6⟩
  · refine Or.inl ⟨b1, b2, fun i hi hn => ?_⟩
    by_cases z : i = k
    · subst z
      have := (hx hn).1
      omega
    · exact b3 i (by omega) hn
  · refine Or.inr ⟨b1, ⟨i, by omega, b3, b4⟩, b5, fun j hj hn => ?_⟩
    by_cases z : j = k
    · subst z
      exact ⟨(hx hn).1, fun h => (hx hn).2 h b1⟩
    · exact b6 j (by omega) hn
theorem bsQ_new {s k : Nat} {bm bc : Int} (h : bsQ β N s k bm bc) (hk : N s k ≠ -1) (h1 : 1 ≤ inN β N s (N s k)) (hx : bc < inN β N s (N s k) ∨ (bc = inN β N s (N s k) ∧ N s k < bm)) : bsQ β N s (k + 1) (N s k) (inN β N s (N s k)) := by
  refine Or.inr ⟨by omega, ⟨k, by omega, rfl, hk⟩, rfl, fun j hj hn => ?_⟩
  by_cases z : j = k
  · subst z
    exact ⟨Int.le_refl _, fun _ => Int.le_refl _⟩
  · rcases h with ⟨b1, b2, b3⟩ | ⟨b1, -, b5, b6⟩
    · have := b3 j (by omega) hn
      omega
    · have := b6 j (by omega) hn
      omega
theorem bsQ_bd (hP : PV (prm β)) {s k : Nat} {bm bc : Int} (h : bsQ β N s k bm bc) : 0 ≤ bc ∧ bc ≤ 60 := by
  rcases h with h | h
  · omega
  · have := inN_bd (β := β) (N := N) (s := s) (m := bm) hP
    omega
theorem c_firstFullest (hR : RN σ q β f N) (hP : PV (prm β)) (hN : NB (prm β) N) (hF : FN (prm β) N) (hn : 4000000 ≤ n) (hf : 0 ≤ f ∧ f ≤ 1439) {s : Nat} (hs : s < 3) : OK (m_X4_firstFullest n q ((2 * s : Nat) : Int) σ) (fun v => ∃ bm bc, v = shF f bm ∧ bsQ β N s (bl β).length bm bc) := by
  have h60 : (bl β).length ≤ 60 := hP.2.2.1
  have r2 := hR.2.1
  have hend := endF_bd hP hN (bl β).length (Nat.le_refl _)
  unfold m_X4_firstFullest
  rw [xlet_eq]
  refine loop_for (bl β).length (fun i (t : Int × Int × Int) => ∃ bm bc, t = (bc, shF f bm, (i : Int)) ∧ bsQ β N s i bm bc) ?_ ?_ (by omega) ⟨-1, 0, rfl, Or.inl ⟨rfl, rfl, fun i hi => absurd hi (Nat.not_lt_zero _)⟩⟩
  · rintro i t hi ⟨bm, bc, rfl, hQ⟩ rec hrec
    have hbc := bsQ_bd hP hQ
    have hst := start_bd hP hF hs hi
    have hb : σ (q + 4 + 2 * s) i = shF f (N s i) := by
      rw [hR.2.2.2.1 i hi (2 * s) (by omega)]
      have s3 : s = 0 ∨ s = 1 ∨ s = 2 := by omega
      rcases s3 with rfl | rfl | rfl <;> rfl
    have hk : ∀ bm' bc', bsQ β N s (i + 1) bm' bc' → OK (rec (bc', shF f bm', (i : Int) + 1)) (fun v => ∃ bm bc, v = shF f bm ∧ bsQ β N s (bl β).length bm bc) := fun bm' bc' h => hrec _ ⟨bm', bc', rfl, h⟩
    dsimp only
    simp (disch := omega) only [zI_of (n := (i : Int)), zI_of (n := ((bl β).length : Int)), zI_of (n := ((2 * s : Nat) : Int)), zI_of (n := bc), r2, if_neg, xck_of, tn_cast, xlet_eq, xj_eq, hb]
    by_cases c : N s i = -1
    · have e1 : shF f (N s i) = -1 := if_pos c
      rw [e1, zI_of (n := -1) (by omega) (by omega), if_pos rfl, zI_of (n := 0) (by omega) (by omega), if_neg (by omega)]
      have hkeep := hk bm bc (bsQ_keep hQ (fun h => absurd c h))
      by_cases c0 : (0 : Int) = bc
      · rw [if_pos c0, if_pos (by omega)]; exact hkeep
      · rw [if_neg c0]; exact hkeep
    · have hst' : 0 ≤ N s i ∧ N s i ≤ endF (prm β) N (bl β).length := by
        rcases hst with z | z
        · exact absurd z c
        · exact z
      have e1 : shF f (N s i) = N s i + f := if_neg c
      have hci := c_inUse hR hP hN hn hf (m := N s i + f) (by omega) hs
      rw [show N s i + f - f = N s i by omega] at hci
      change m_X4_inUse n q ((2 * s : Nat) : Int) (N s i + f) σ = some (inN β N s (N s i)) at hci
      have hx1 := inN_start hP hs hi c
      have hx2 := inN_bd (β := β) (N := N) (s := s) (m := N s i) hP
      have hkeep := fun h => hk bm bc (bsQ_keep hQ h)
      have hnew := fun h => hk (N s i) (inN β N s (N s i)) (bsQ_new hQ c hx1 h)
      rw [e1] at hnew
      rw [e1, zI_of (n := N s i + f) (by omega) (by omega), if_neg (by omega), hci, bind_some', zI_of (n := inN β N s (N s i)) (by omega) (by omega)]
      by_cases c1 : bc < inN β N s (N s i)
      · rw [if_pos c1]
        exact hnew (Or.inl c1)
      · rw [if_neg c1]
        by_cases c2 : inN β N s (N s i) = bc
        · rw [if_pos c2, if_neg (by omega)]
          have hbm : bm ≠ -1 ∧ 0 ≤ bm ∧ bm ≤ endF (prm β) N (bl β).length := by
            rcases hQ with h | ⟨b1, ⟨j, b2, b3, b4⟩, b5, b6⟩
            · omega
            · rcases start_bd hP hF hs (i := j) (by omega) with z | z <;> omega
          have e3 : shF f bm = bm + f := if_neg hbm.1
          rw [e3] at hkeep ⊢
          rw [zI_of (n := bm + f) (by omega) (by omega)]
          by_cases c3 : bm + f ≤ N s i + f
          · rw [if_pos c3]
            exact hkeep (fun _ => ⟨by omega, fun _ _ => by omega⟩)
          · rw [if_neg c3]
            exact hnew (Or.inr ⟨c2.symm, by omega⟩)
        · rw [if_neg c2]
          exact hkeep (fun _ => ⟨by omega, fun h => absurd h c2⟩)
  · rintro t ⟨bm, bc, rfl, hQ⟩ rec
    dsimp only
    simp (disch := omega) only [zI_of (n := ((bl β).length : Int)), r2, if_pos]
    exact OK_some ⟨bm, bc, rfl, hQ⟩
theorem q_busiestMinute (hT : NT σ β e) (hn : 4000000 ≤ n) {p : Int} (h1 : -2147483648 ≤ p) (h2 : p < 2147483648) : SAME σ (m_X12_busiestMinute n p σ) (m_X13_busiestMinute n p σ) := by
  have hT' := hT
  obtain ⟨hB, hβ, hV, -⟩ := hT
  unfold m_X12_busiestMinute m_X13_busiestMinute
  refine SAME_night hT' hn (fun h60 hf hRF hF => ?_)
  have hP := prm_V hV h60
  have hN := Mf_NB hV h60
  have hb60 : (bl β).length ≤ 60 := hP.2.2.1
  have hend := endF_bd hP hN (bl β).length (Nat.le_refl _)
  have hin : m_X13_isIn (zI p) 0 2 = if 0 ≤ p ∧ p ≤ 2 then 1 else 0 := by rw [zI_of h1 h2, r_isIn (by omega) (by omega) (by omega) (by omega) (by omega) (by omega)]
  rw [c_isPlace h1 h2, hin]
  by_cases c : 0 ≤ p ∧ p < 3
  · obtain ⟨s, rfl⟩ : ∃ s : Nat, p = (s : Int) := ⟨p.toNat, by omega⟩
    have hs3 : s < 3 := by omega
    obtain ⟨E, hE⟩ : ∃ E : Nat, (E : Int) = endF (prm β) (Mf (prm β)).1 (bl β).length := ⟨(endF (prm β) (Mf (prm β)).1 (bl β).length).toNat, by omega⟩
    obtain ⟨v, hv, bm, bc, hvb, hQ⟩ := c_firstFullest hRF.1 hP hN hF hn hf hs3
    have e2 : m_X4_stageAt (s : Int) = ((2 * s : Nat) : Int) := by unfold m_X4_stageAt; omega
    have hbm : bm = -1 ∨ (0 ≤ bm ∧ bm ≤ endF (prm β) (Mf (prm β)).1 (bl β).length) := by
      rcases hQ with h | ⟨b1, ⟨j, b2, b3, b4⟩, b5, b6⟩
      · exact Or.inl h.2.1
      · rcases start_bd hP hF hs3 (i := j) (by omega) with z | z <;> omega
    have hvbd : -1 ≤ v ∧ v ≤ 300000 := by
      rw [hvb]
      unfold shF
      split <;> omega
    refine ⟨v, ?_, by omega, by omega, fun s' hG hs h6 => ?_⟩
    · rw [if_pos c, xj_eq, if_neg (by omega), e2, hv]
      rfl
    · rw [if_pos (show 0 ≤ (s : Int) ∧ (s : Int) ≤ 2 by omega), if_neg (show ¬ (1 : Int) = 0 by omega), xlet_eq]
      have h35 : s' 184 35 = (E : Int) := by rw [hE]; exact hG.2.2.2.1
      suffices h : OK (loopF _ n ((-1 : Int), (0 : Int), (0 : Int))) (fun r => r = (v, s')) by
        obtain ⟨r, hr, hr2⟩ := h
        rw [← hr2]
        exact hr
      refine loop_for (E + 1) (fun i (t : Int × Int × Int) => ∃ m1 c1, t = (m1, c1, (i : Int)) ∧ bsP β (Mf (prm β)).1 s i m1 c1) ?_ ?_ (by omega) ⟨-1, 0, rfl, Or.inl ⟨rfl, rfl, fun i hi => absurd hi (Nat.not_lt_zero _)⟩⟩
      · rintro i t hi ⟨m1, c1, rfl, hp⟩ rec hrec
        have hb := inN_bd (β := β) (N := (Mf (prm β)).1) (s := s) (m := i) hP
        have hri := r_inUse hP hG hF hn (m := (i : Int)) (by omega) hs3
        change m_X13_inUse n s (i : Int) s' = some (inN β (Mf (prm β)).1 s i) at hri
        have hc1 : 0 ≤ c1 ∧ c1 ≤ 60 := by
          rcases hp with h | h
          · omega
          · have := inN_bd (β := β) (N := (Mf (prm β)).1) (s := s) (m := m1) hP
            omega
        dsimp only
        simp (disch := omega) only [zI_of (n := (i : Int)), zI_of (n := (E : Int)), zI_of (n := c1), zI_of (n := inN β (Mf (prm β)).1 s i), h35, if_neg, xlet_eq, xj_eq, hri, bind_some']
        by_cases c2 : c1 < inN β (Mf (prm β)).1 s i
        · rw [if_pos c2]
          refine hrec _ ⟨(i : Int), inN β (Mf (prm β)).1 s i, rfl, Or.inr ⟨by omega, by omega, by omega, rfl, fun m hm => ?_⟩⟩
          by_cases z : m = i
          · subst z
            exact ⟨Int.le_refl _, fun h => by omega⟩
          · rcases hp with ⟨b1, b2, b3⟩ | ⟨b1, b2, b3, b4, b5⟩
            · have := b3 m (by omega)
              omega
            · have := b5 m (by omega)
              omega
        · rw [if_neg c2]
          refine hrec _ ⟨m1, c1, rfl, ?_⟩
          rcases hp with ⟨b1, b2, b3⟩ | ⟨b1, b2, b3, b4, b5⟩
          · refine Or.inl ⟨b1, b2, fun m hm => ?_⟩
            by_cases z : m = i
            · subst z; omega
            · exact b3 m (by omega)
          · refine Or.inr ⟨b1, b2, by omega, b4, fun m hm => ?_⟩
            by_cases z : m = i
            · subst z
              exact ⟨by omega, fun h => by omega⟩
            · exact b5 m (by omega)
      · rintro t ⟨m1, c1, rfl, hp⟩ rec
        have hm := bs_same hP hF hs3 hE hp hQ
        subst hm
        dsimp only
        simp (disch := omega) only [zI_of (n := ((E + 1 : Nat) : Int)), zI_of (n := (E : Int)), zI_of (n := m1), h35, if_pos, xlet_eq, h6]
        refine OK_some ?_
        rw [hvb]
        unfold shF
        by_cases z : m1 = -1
        · rw [if_pos z, if_pos z]
        · rw [if_neg z, if_neg z, Int.add_comm]
  · refine ⟨-1, ?_, by omega, by omega, fun s' hG hs h6 => ?_⟩
    · rw [if_neg c, xj_eq, if_pos rfl]
    · rw [if_neg (show ¬ (0 ≤ p ∧ p ≤ 2) by omega), if_pos rfl]
end ASK7
