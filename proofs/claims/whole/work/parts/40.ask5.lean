/-! questions of both: shelves; the night is simulated -/
section ASK5
variable {σ : xS} {q b n : Nat} {β : Nat → Int} {e f t : Int} {N : Nat → Nat → Int} {M : NS}
theorem usedB_in {P : NP} {o i : Nat} {m : Int} : usedB P N o m i = (decide (N 4 i = (o : Int)) && inB P N 2 m i) := by
  unfold usedB inB
  rw [Bool.and_assoc, Bool.and_assoc, Bool.and_assoc]
  rfl
theorem q_shelvesUsed (hT : NT σ β e) (hn : 4000000 ≤ n) {p m : Int} (h1 : -2147483648 ≤ p) (h2 : p < 2147483648) (h3 : -2147483648 ≤ m) (h4 : m < 2147483648) : SAME σ (m_X12_shelvesUsed n p m σ) (m_X13_shelvesUsed n p m σ) := by
  have hT' := hT
  obtain ⟨hB, hβ, hV, -⟩ := hT
  have v5 := hV.2.2.2.2.2.1
  unfold m_X12_shelvesUsed m_X13_shelvesUsed
  refine SAME_night hT' hn (fun h60 hf hRF hF => ?_)
  have hP := prm_V hV h60
  have hN := Mf_NB hV h60
  have hb60 : (bl β).length ≤ 60 := hP.2.2.1
  have hpv4 : pv (prm β) ≤ 4 := hP.2.2.2.1
  have hr : ∀ s : xS, s 185 = β → m_X13_isOven p s = some (if 0 ≤ p ∧ p < β 5 then 1 else 0) := fun s e => by
    have h := r_isOven (σ := s) (p := p) (by rw [e]; exact hV) h1 h2
    rw [e] at h
    exact h
  rw [c_hasOven hB hV h1 h2]
  by_cases c : 0 ≤ p ∧ p < β 5
  · obtain ⟨o, rfl⟩ : ∃ o : Nat, p = (o : Int) := ⟨p.toNat, by omega⟩
    have hbd := used_bd hP.2.2.1 (Mf (prm β)).1 o (m - σ 184 6)
    refine ⟨used (prm β) (Mf (prm β)).1 o (m - σ 184 6), ?_, by omega, by omega, fun s hG hs h6 => ?_⟩
    · rw [if_pos c, xj_eq, if_neg (by omega), c_shelvesTaken hRF.1 hP hN hn hf ⟨h3, h4⟩ (by omega)]
      rfl
    · have h19 := hG.1
      rw [hr s hs, if_pos c, bind_some', zI_of (n := 1) (by omega) (by omega), if_neg (by omega)]
      by_cases cm : σ 184 6 ≤ m
      · refine loop_eq (bl β).length (fun i => (sumTo i (fun b => if usedB (prm β) (Mf (prm β)).1 o (m - σ 184 6) b = true then 1 else 0), (i : Int))) rfl ?_ ?_ (by omega)
        · intro i hi rec
          obtain ⟨g1, g2, g3, g4⟩ := hG.2.1 i hi
          have hN4 := hN.2.1 i hi
          have hu := r_uses hP hG hF (m := m - σ 184 6) (by omega) hi (s := 2) (by omega)
          change m_X13_uses i 2 (m - σ 184 6) s = _ at hu
          dsimp only
          rw [sumTo, usedB_in]
          simp (disch := omega) only [zI_of (n := (i : Int)), zI_of (n := ((bl β).length : Int)), zI_of (n := (o : Int)), zI_of (n := m), zI_of (n := σ 184 6), zI_of (n := (Mf (prm β)).1 4 i), h19, h6, if_neg, xck_of, tn_cast, xlet_eq, xj_eq, g4, hu, bind_some']
          by_cases c4 : (Mf (prm β)).1 4 i = o
          · rw [if_pos c4, decide_eq_true c4, Bool.true_and]
            by_cases c5 : inB (prm β) (Mf (prm β)).1 2 (m - σ 184 6) i = true
            · rw [if_pos c5, zI_of (by omega) (by omega), if_neg (by omega)]; rfl
            · rw [if_neg c5, zI_of (by omega) (by omega), if_pos rfl]; rfl
          · rw [if_neg c4, decide_eq_false c4, Bool.false_and]; rfl
        · intro rec
          dsimp only
          simp (disch := omega) only [zI_of (n := ((bl β).length : Int)), h19, xj_eq, if_pos]
          rfl
      · have hz : used (prm β) (Mf (prm β)).1 o (m - σ 184 6) = 0 := by
          unfold used
          refine sumTo_zero (fun i hi => ?_)
          rw [usedB_in, inB_neg hP hF (by omega) 2 (by omega) hi, Bool.and_false]
          rfl
        rw [hz]
        refine loop_eq 0 (fun _ => (0, 0)) rfl (fun i hi => absurd hi (Nat.not_lt_zero _)) ?_ (by omega)
        intro rec
        dsimp only
        rw [xj_eq, h19, h6, zI_of (n := m) h3 h4, zI_of (n := σ 184 6) (by omega) (by omega)]
        split
        · rfl
        · rw [if_pos (by omega)]
  · refine ⟨-1, by rw [if_neg c, xj_eq, if_pos rfl], by omega, by omega, fun s hG hs h6 => ?_⟩
    rw [hr s hs, if_neg c, bind_some', zI_of (by omega) (by omega), if_pos rfl]
/-- what simulating leaves alone -/
def sfr (σ σ' : xS) : Prop := ∀ a j, ¬ (118 ≤ a ∧ a < 139) → ¬ (a = 0 ∧ (j = 8 ∨ j = 9)) → (a < 184 ∨ (184 < a ∧ a < 192) ∨ 204 < a ∨ (a = 184 ∧ j ≠ 5 ∧ j ≠ 6 ∧ j ≠ 7 ∧ j ≠ 19 ∧ j ≠ 27 ∧ j ≠ 29 ∧ j ≠ 34 ∧ j ≠ 35 ∧ j ≠ 36 ∧ j ≠ 37 ∧ j ≠ 38)) → σ' a j = σ a j
theorem q_simulate (hT : NT σ β e) (hn : 4000000 ≤ n) {p : Int} (h1 : -2147483648 ≤ p) (h2 : p < 2147483648) : ∃ v σ1, m_X12_simulate n p σ = some (v, σ1) ∧ (∀ a j, 139 ≤ a → σ1 a j = σ a j) ∧ -2147483648 ≤ v ∧ v < 2147483648 ∧ OK (m_X13_simulate n p σ1) (fun x => x.1 = v ∧ x.2 184 7 = 0 ∧ NT x.2 β e ∧ sfr σ x.2) := by
  have hT' := hT
  obtain ⟨hB, hβ, hV, h4⟩ := hT
  have hb := bkA_lt (σ 0 3)
  have hall := allF_bd hV
  have hin : m_X13_isIn p 0 1439 = if 0 ≤ p ∧ p ≤ 1439 then 1 else 0 := by rw [r_isIn (by omega) (by omega) (by omega) (by omega) (by omega) (by omega)]
  have hsame : ∀ v : Int, OK (some (v, xput σ 184 7 0)) (fun x => x.1 = v ∧ x.2 184 7 = 0 ∧ NT x.2 β e ∧ sfr σ x.2) := fun v => OK_some ⟨rfl, (xput_eq : (xput σ 184 7 0) 184 7 = 0), NT_same hT' (fun a j h => (xput_ne (by omega) : (xput σ 184 7 0) a j = σ a j)), fun a j _ _ h => (xput_ne (by omega) : (xput σ 184 7 0) a j = σ a j)⟩
  have k5 : (xput σ 184 7 0) 185 = β := by rw [xput_ne1 (by omega)]; exact hβ
  unfold m_X12_simulate m_X12_batchCount m_X13_simulate
  by_cases c : 0 ≤ p ∧ p ≤ 1439
  · rw [c_batchesNeeded hB hV hn, bind_some', zI_of h1 h2, xj_eq, if_neg (by omega), if_pos c.2, zI_of (n := allF β) (by omega) (by omega), xlet_eq]
    by_cases c60 : allF β ≤ 60
    · rw [if_pos c60, bind_some', zI_of (by omega) (by omega), if_neg (by omega)]
      obtain ⟨σ2, e2, hRF, hfr⟩ := c_run (q := 118) hB hV hn hb c c60
      have hP := prm_V hV c60
      have hN := Mf_NB hV c60
      have hend := endF_bd hP hN (bl β).length (Nat.le_refl _)
      have e118 : σ2 118 1 = p + endF (prm β) (Mf (prm β)).1 (bl β).length := hRF.2.1
      rw [e2, bind_some', xlet_eq, xlet_eq]
      refine ⟨_, _, rfl, fun a j ha => ?_, ?_, ?_, ?_⟩
      · rw [xput_ne (by omega), xput_ne (by omega)]; exact hfr a j (by omega)
      · rw [xput_ne (by omega), xput_ne (by omega), e118]; omega
      · rw [xput_ne (by omega), xput_ne (by omega), e118]; omega
      · have k5' : (xput (xput (xput σ2 0 8 1) 0 9 0) 184 7 0) 185 = β := by
          rw [xput_ne1 (by omega), xput_ne1 (by omega), xput_ne1 (by omega), ← hβ]
          funext j
          exact hfr 185 j (by omega)
        have ha := r_allBatches (σ := xput (xput (xput σ2 0 8 1) 0 9 0) 184 7 0) (k := 185) (n := n) (by rw [k5']; exact hV) hn
        rw [k5'] at ha
        rw [xlet_eq, hin, if_pos c, if_neg (by omega), ha, bind_some', zI_of (by omega) (by omega), if_pos c60, xlet_eq, xlet_eq]
        refine OK_bind (r_simulates (k := 185) (β := β) (by omega) (by rw [xput_ne1 (by omega), xput_ne1 (by omega)]; exact k5') hV c60 hn) (fun τ h => ?_)
        obtain ⟨g1, g2⟩ := h
        have hG := (RG_of hV c60 g1).1
        have fr : ∀ a j, (a < 184 ∨ (184 < a ∧ a < 192) ∨ 204 < a ∨ (a = 184 ∧ j ≠ 5 ∧ j ≠ 6 ∧ j ≠ 7 ∧ j ≠ 19 ∧ j ≠ 27 ∧ j ≠ 29 ∧ j ≠ 34 ∧ j ≠ 35 ∧ j ≠ 36 ∧ j ≠ 37 ∧ j ≠ 38)) → ¬ (a = 0 ∧ (j = 8 ∨ j = 9)) → τ a j = σ2 a j := fun a j h h' => by
          rw [g2 a j (by omega), xput_ne (by omega), xput_ne (by omega), xput_ne (by omega), xput_ne (by omega), xput_ne (by omega)]
        refine OK_some ⟨?_, ?_, ⟨?_, ?_, hV, Or.inr ⟨?_, ?_, c60, ?_, ?_⟩⟩, fun a j a1 a2 a3 => ?_⟩
        · rw [xput_ne (by omega), xput_ne (by omega), e118, ← hG.2.2.2.1]
        · show τ 184 7 = 0
          rw [g2 _ _ (by omega), xput_ne (by omega), xput_ne (by omega), xput_eq]
        · have e3 : τ 0 3 = σ 0 3 := by rw [fr _ _ (by omega) (by omega)]; exact hfr _ _ (by omega)
          show Bk τ (bkA (τ 0 3)) β e
          rw [e3]
          refine Bk_same hB hV (fun k j a d => ?_)
          by_cases z : k = 0 ∧ (j = 8 ∨ j = 9)
          · exact absurd z.1 (by have : 6 ≤ bkA (σ 0 3) := by unfold bkA; split <;> omega
                                 omega)
          · rw [fr _ _ (by omega) z]; exact hfr _ _ (by omega)
        · show τ 185 = β
          rw [← hβ]
          funext j
          rw [fr _ _ (by omega) (by omega)]
          exact hfr _ _ (by omega)
        · show τ 0 8 = 1
          rw [g2 _ _ (by omega), xput_ne (by omega), xput_ne (by omega), xput_ne (by omega), xput_ne (by omega), xput_eq]
        · show τ 184 5 = 1
          rw [g2 _ _ (by omega), xput_ne (by omega), xput_eq]
        · show 0 ≤ τ 184 6 ∧ τ 184 6 ≤ 1439
          rw [g2 _ _ (by omega), xput_eq]
          exact c
        · show RF τ 118 β (τ 184 6)
          have e6 : τ 184 6 = p := by rw [g2 _ _ (by omega), xput_eq]
          rw [e6]
          exact RF_same hRF (fun a j h => fr a j (by omega) (by omega))
        · show τ a j = σ a j
          rw [fr a j a3 a2]
          exact hfr a j (by omega)
    · rw [if_neg c60, bind_some', zI_of (n := -3) (by omega) (by omega), if_pos rfl]
      refine ⟨-3, σ, rfl, fun _ _ _ => rfl, by omega, by omega, ?_⟩
      have ha := r_allBatches (σ := xput σ 184 7 0) (k := 185) (n := n) (by rw [k5]; exact hV) hn
      rw [k5] at ha
      rw [xlet_eq, hin, if_pos c, if_neg (by omega), ha, bind_some', zI_of (by omega) (by omega), if_neg c60]
      exact hsame (-3)
  · refine ⟨-1, σ, ?_, fun _ _ _ => rfl, by omega, by omega, ?_⟩
    · rw [xj_eq, zI_of h1 h2]
      by_cases c1 : p < 0
      · rw [if_pos c1]
      · rw [if_neg c1, if_neg (by omega)]
    · rw [xlet_eq, zI_of h1 h2, hin, if_neg c, if_pos rfl]
      exact hsame (-1)
end ASK5
