/-! a fresh object's answers -/
section CLSC
variable {σ τ s x y : xS} {n m b : Nat} {β γ δ : Nat → Int}
theorem z_all : allF δ0 = 0 := rfl
theorem z_bl : bl δ0 = [] := rfl
theorem z_ed : edF δ0 = 0 := rfl
theorem z_msF : msF δ0 (Mf (prm δ0)).1 (δ0 9).toNat = 0 := rfl
theorem z_srv : srvF δ0 (Mf (prm δ0)).1 = 0 := by
  unfold srvF
  rw [z_msF]
  rfl
theorem z_lt : ltV δ0 δ0 0 = 1439 := by
  have hW : qW (PX δ0 δ0 0 0 1439) = 1 := by
    have e : qM (PX δ0 δ0 0 0 1439) = 0 := z_srv
    unfold qW
    rw [e, rsF_0, if_pos (by omega)]
    rfl
  have hT : qT (PX δ0 δ0 0 0 1439) = bsS (qFz (PX δ0 δ0 0 0 1439)) (qSl (PX δ0 δ0 0 0 1439)) (qW (PX δ0 δ0 0 0 1439)) := rfl
  unfold ltV
  rw [if_pos z_msF, hT, hW]
  rfl
theorem z_first (h : J0S σ) : ∃ τ, FirstOK σ τ ∧ JS τ := by
  obtain ⟨hB, hR, hz, h4, h28⟩ := h
  have e3 : σ 0 3 = 0 := hz 0 3 (by omega) (by omega) (by omega)
  have hV := δ0_V.1
  have h60 : allF δ0 ≤ 60 := by rw [z_all]; omega
  have hbk : bkA (σ 0 3) = 6 := by rw [e3]; rfl
  have hC : CB σ δ0 := by
    refine ⟨by rw [hbk]; exact hB, hV, by rw [hbk]; exact hR⟩
  have hn : 4000000 ≤ 4000000 := Nat.le_refl _
  have e8 : σ 0 8 = 0 := hz 0 8 (by omega) (by omega) (by omega)
  have e114 : σ 114 3 = 0 := hz 114 3 (by omega) (by omega) (by omega)
  obtain ⟨⟨v1, s1⟩, k1, k2, k3, k4, k5⟩ := c_simulate (f := 7) hC hn (by omega) h60
  dsimp only at k2 k3 k4 k5
  obtain ⟨⟨v2, s2⟩, l1, l2, l3, l4, l5⟩ := c_failedShops k3 k4 hn
  dsimp only at l2 l3 l4 l5
  obtain ⟨⟨v3, s3⟩, m1, m2, m3⟩ := c_latestStart l3 hn h60
  dsimp only at m2 m3
  have hfl := (fl_lt (f := 7) hV h60 (by omega)).1.mpr (by rw [z_lt]; omega)
  rw [hfl] at l2
  rw [z_lt] at m2
  rw [z_ed] at k2
  subst k2 l2 m2
  have hf : ∀ a j, ¬ (114 ≤ a) → ¬ (a = 0 ∧ (j = 8 ∨ j = 9)) → s3 a j = σ a j := fun a j c1 c2 => by
    rw [m3 _ _ (by omega), l5 _ _ (by omega) (by omega), k5 _ _ (by omega) (by omega)]
  refine ⟨s3, ⟨?_, ?_, σ, s1, s2, a_undo0 e114, k1, l1, m1, ?_, ?_⟩, ?_, fun j => ?_, Or.inl ⟨?_, ?_⟩⟩
  · unfold m_X12_spoiledCount
    rw [e8, xj_eq, zI_of (n := 0) (by omega) (by omega), if_pos rfl]
  · rw [c_batchCount hC.1 hV hn, if_pos h60]
    rfl
  · have e33 : s3 0 3 = σ 0 3 := hf _ _ (by omega) (by omega)
    have hB3 : Bk s3 (bkA (s3 0 3)) δ0 0 := by rw [e33, hbk]; exact Bk_same hB hV (fun k j c1 c2 => hf k j (by omega) (by omega))
    have hR3 : RD s3 (bkA (s3 0 3) + 39) δ0 := by rw [e33, hbk]; exact RD_same hR (fun a j c1 c2 => hf a j (by omega) (by omega))
    rw [c_routeMinutes hB3 hV hR3 (by omega) (by omega)]
    rfl
  · show s3 2 7 = 0
    rw [hf _ _ (by omega) (by omega)]
    exact hz 2 7 (by omega) (by omega) (by omega)
  · rw [hf _ _ (by omega) (by omega)]
    exact hz 0 1 (by omega) (by omega) (by omega)
  · rw [hf _ _ (by omega) (by omega), hz 1 j (by omega) (by omega) (by omega)]
    omega
  · rw [hf _ _ (by omega) (by omega)]
    exact e3
  · rw [hf _ _ (by omega) (by omega)]
    exact h4
end CLSC
