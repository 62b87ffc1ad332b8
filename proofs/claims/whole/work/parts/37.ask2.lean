/-! the two nights side by side -/
section ASK2
variable {σ : xS} {q b n : Nat} {β : Nat → Int} {e f t : Int} {N : Nat → Nat → Int} {M : NS}
def NT (σ : xS) (β : Nat → Int) (e : Int) : Prop :=
  Bk σ (bkA (σ 0 3)) β e ∧ σ 185 = β ∧ V β ∧ ((σ 0 8 = 0 ∧ σ 184 5 = 0) ∨ (σ 0 8 = 1 ∧ σ 184 5 = 1 ∧ allF β ≤ 60 ∧ (0 ≤ σ 184 6 ∧ σ 184 6 ≤ 1439) ∧ RF σ 118 β (σ 184 6)))
def rfr7 (σ σ' : xS) : Prop := ∀ a j, (a < 184 ∨ (184 < a ∧ a < 192) ∨ 204 < a ∨ (a = 184 ∧ j ≠ 7 ∧ j ≠ 19 ∧ j ≠ 27 ∧ j ≠ 29 ∧ j ≠ 34 ∧ j ≠ 35 ∧ j ≠ 36 ∧ j ≠ 37 ∧ j ≠ 38)) → σ' a j = σ a j
theorem bkA_lt (v : Int) : bkA v + 54 ≤ 118 := by
  unfold bkA
  split <;> omega
theorem RF_same {σ' : xS} (h : RF σ q β f) (hs : ∀ a j, (q ≤ a ∧ a < q + 21) → σ' a j = σ a j) : RF σ' q β f := by
  obtain ⟨h1, h2, h3⟩ := h
  refine ⟨RN_of h1 (hs _ _ (by omega)) (hs _ _ (by omega)) (fun k j a b c d e => hs k j (by omega)), by rw [hs _ _ (by omega)]; exact h2, fun o ho => ?_⟩
  rw [hs _ _ (by omega), hs _ _ (by omega)]
  exact h3 o ho
theorem NT_same {σ' : xS} (h : NT σ β e) (hs : rfr7 σ σ') : NT σ' β e := by
  obtain ⟨h1, h2, h3, h4⟩ := h
  have hb := bkA_lt (σ 0 3)
  have e3 : σ' 0 3 = σ 0 3 := hs _ _ (by omega)
  unfold NT
  rw [e3, hs 0 8 (by omega), hs 184 5 (by omega), hs 184 6 (by omega)]
  refine ⟨Bk_same h1 h3 (fun k j a d => hs k j (by omega)), by rw [← h2]; funext j; exact hs _ _ (by omega), h3, ?_⟩
  rcases h4 with z | z
  · exact Or.inl z
  · exact Or.inr ⟨z.1, z.2.1, z.2.2.1, z.2.2.2.1, RF_same z.2.2.2.2 (fun a j h => hs a j (by omega))⟩
theorem r_isNight (hβ : σ 185 = β) (hV : V β) (h5 : σ 184 5 = 0 ∨ (σ 184 5 = 1 ∧ allF β ≤ 60)) (hn : 4000000 ≤ n) :
    OK (m_X13_isNight n σ) (fun r => r.1 = σ 184 5 ∧ (σ 184 5 = 1 → RG r.2 β ∧ FN (prm β) (Mf (prm β)).1) ∧ r.2 184 7 = 0 ∧ rfr7 σ r.2) := by
  unfold m_X13_isNight
  rw [xlet_eq, xj_eq]
  have e5 : (xput σ 184 7 0) 184 5 = σ 184 5 := xput_ne (by omega)
  rcases h5 with z | ⟨z, h60⟩
  · rw [e5, z, zI_of (by omega) (by omega), if_pos rfl]
    dsimp only
    rw [e5, z, xbo_0]
    exact OK_some ⟨rfl, fun h => by omega, (xput_eq : (xput σ 184 7 0) 184 7 = 0), fun a j h => (xput_ne (by omega) : (xput σ 184 7 0) a j = σ a j)⟩
  · rw [e5, z, zI_of (by omega) (by omega), if_neg (by omega)]
    refine OK_bind (r_simulates (k := 185) (β := β) (by omega) (by rw [xput_ne1 (by omega)]; exact hβ) hV h60 hn) (fun τ h => ?_)
    obtain ⟨h1, h2⟩ := h
    have f5 : τ 184 5 = 1 := by rw [h2 _ _ (by omega), e5]; exact z
    have f7 : τ 184 7 = 0 := by rw [h2 _ _ (by omega)]; exact xput_eq
    dsimp only
    rw [f5, xbo_1]
    exact OK_some ⟨rfl, fun _ => RG_of hV h60 h1, f7, fun a j h => by show τ a j = σ a j; rw [h2 a j (by omega), xput_ne (by omega)]⟩
/-- a question answered the same way by both -/
def SAME (σ : xS) (c : Option Int) (r : Option (Int × xS)) : Prop := ∃ v, c = some v ∧ -2147483648 ≤ v ∧ v < 2147483648 ∧ OK r (fun x => x.1 = v ∧ x.2 184 7 = 0 ∧ rfr7 σ x.2)
theorem NT_h5 (h : NT σ β e) : σ 184 5 = 0 ∨ (σ 184 5 = 1 ∧ allF β ≤ 60) := by
  rcases h.2.2.2 with z | z
  · exact Or.inl z.2
  · exact Or.inr ⟨z.2.1, z.2.2.1⟩
theorem OK_xbS {ρ : Type} {o : Option (Int × xS)} {F : Int → xS → Option ρ} {Q : Int × xS → Prop} {P : ρ → Prop} (h : OK o Q) (k : ∀ v s, Q (v, s) → OK (F v s) P) : OK (xbS o F) P := by
  obtain ⟨r, rfl, q⟩ := h
  exact k r.1 r.2 q
theorem q_spoiledCount (hT : NT σ β e) (hn : 4000000 ≤ n) : SAME σ (m_X12_spoiledCount n σ) (m_X13_spoiledCount n σ) := by
  have hT' := hT
  obtain ⟨hB, hβ, hV, h4⟩ := hT
  unfold m_X12_spoiledCount m_X13_spoiledCount
  rcases h4 with ⟨z1, z2⟩ | ⟨z1, z2, h60, hf, hRF⟩
  · refine ⟨-2, ?_, by omega, by omega, ?_⟩
    · rw [xj_eq, z1, zI_of (by omega) (by omega), if_pos rfl]
    · refine OK_xbS (r_isNight hβ hV (NT_h5 hT') hn) (fun v s h => ?_)
      obtain ⟨g1, g2, g3, g4⟩ := h
      dsimp only at g1 g2 g3 g4
      rw [xj_eq, g1, z2, zI_of (by omega) (by omega), if_pos rfl]
      exact OK_some ⟨rfl, g3, g4⟩
  · have hP := prm_V hV h60
    have hsp := spF_bd (N := (Mf (prm β)).1) hP (Nat.le_refl _)
    refine ⟨spF β (Mf (prm β)).1, ?_, by unfold spF; omega, by unfold spF; omega, ?_⟩
    · rw [xj_eq, z1, zI_of (by omega) (by omega), if_neg (by omega), c_spoiledBatches hRF.1 hP (Mf_NB hV h60) hn hf]
      rfl
    · refine OK_xbS (r_isNight hβ hV (NT_h5 hT') hn) (fun v s h => ?_)
      obtain ⟨g1, g2, g3, g4⟩ := h
      dsimp only at g1 g2 g3 g4
      rw [xj_eq, g1, z2, zI_of (by omega) (by omega), if_neg (by omega), r_spoiled hP (g2 z2).1 hn, bind_some']
      exact OK_some ⟨rfl, g3, g4⟩
theorem q_changingMinutes (hT : NT σ β e) (hn : 4000000 ≤ n) {p : Int} (h1 : -2147483648 ≤ p) (h2 : p < 2147483648) : SAME σ (m_X12_changingMinutes p σ) (m_X13_changingMinutes n p σ) := by
  have hT' := hT
  obtain ⟨hB, hβ, hV, h4⟩ := hT
  have v5 := hV.2.2.2.2.2.1
  unfold m_X12_changingMinutes m_X13_changingMinutes
  rcases h4 with ⟨z1, z2⟩ | ⟨z1, z2, h60, hf, hRF⟩
  · refine ⟨-2, ?_, by omega, by omega, ?_⟩
    · rw [z1, zI_of (by omega) (by omega), if_pos rfl]
    · refine OK_xbS (r_isNight hβ hV (NT_h5 hT') hn) (fun v s h => ?_)
      obtain ⟨g1, g2, g3, g4⟩ := h
      dsimp only at g1 g2 g3 g4
      rw [xj_eq, g1, z2, zI_of (by omega) (by omega), if_pos rfl]
      exact OK_some ⟨rfl, g3, g4⟩
  · have hP := prm_V hV h60
    have hN := Mf_NB hV h60
    have hr : ∀ s : xS, rfr7 σ s → m_X13_isOven p s = some (if 0 ≤ p ∧ p < β 5 then 1 else 0) := fun s hs => by
      have e : s 185 = β := by rw [← hβ]; funext j; exact hs _ _ (by omega)
      have h := r_isOven (σ := s) (p := p) (by rw [e]; exact hV) h1 h2
      rw [e] at h
      exact h
    by_cases c : 0 ≤ p ∧ p < β 5
    · obtain ⟨o, rfl⟩ : ∃ o : Nat, p = (o : Int) := ⟨p.toNat, by omega⟩
      have hb := (hN.2.2 o (by show o < (β 5).toNat; omega)).2.2
      refine ⟨(Mf (prm β)).1 7 o, ?_, by omega, by omega, ?_⟩
      · rw [z1, zI_of (by omega) (by omega), if_neg (by omega), c_hasOven hB hV h1 h2, if_pos c]
        simp (disch := omega) only [xj_eq, zI_of (n := (o : Int)), if_neg, xck_of, tn_cast, (hRF.1.2.2.2.2.2 o c.2).2.2]
      · refine OK_xbS (r_isNight hβ hV (NT_h5 hT') hn) (fun v s h => ?_)
        obtain ⟨g1, g2, g3, g4⟩ := h
        dsimp only at g1 g2 g3 g4
        rw [xj_eq, g1, z2, zI_of (by omega) (by omega), if_neg (by omega), hr s g4, if_pos c, bind_some', zI_of (n := 1) (by omega) (by omega)]
        simp (disch := omega) only [zI_of (n := (o : Int)), if_neg, xck_of, tn_cast, (g2 z2).1.2.2.1 o c.2]
        exact OK_some ⟨rfl, g3, g4⟩
    · refine ⟨-1, ?_, by omega, by omega, ?_⟩
      · rw [z1, zI_of (by omega) (by omega), if_neg (by omega), c_hasOven hB hV h1 h2, if_neg c, xj_eq, if_pos rfl]
      · refine OK_xbS (r_isNight hβ hV (NT_h5 hT') hn) (fun v s h => ?_)
        obtain ⟨g1, g2, g3, g4⟩ := h
        dsimp only at g1 g2 g3 g4
        rw [xj_eq, g1, z2, zI_of (by omega) (by omega), if_neg (by omega), hr s g4, if_neg c, bind_some', zI_of (by omega) (by omega), if_pos rfl]
        exact OK_some ⟨rfl, g3, g4⟩
end ASK2
