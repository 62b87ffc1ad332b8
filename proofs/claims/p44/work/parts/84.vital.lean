/-! the vital street: both -/
section VIT
variable {σ τ : xS} {k n i b : Nat} {β γ : Nat → Int} {e f : Int}
theorem Bk_low (h : Bk σ b β e) (hV : V β) (hf : ∀ k j, b ≤ k → k < b + 45 → τ k j = σ k j) : Bk τ b β e := by
  obtain ⟨b0, b1, b2, b3, b4, b5, b6, b7, b8, b9, bd, bo, bs, bv, br⟩ := h
  obtain ⟨v0, v1, v2, v3, v4, v5, v6, v7, v8, v9, -⟩ := hV
  refine ⟨by rw [hf _ _ (by omega) (by omega)]; exact b0, by rw [hf _ _ (by omega) (by omega)]; exact b1, by rw [hf _ _ (by omega) (by omega)]; exact b2, by rw [hf _ _ (by omega) (by omega)]; exact b3, by rw [hf _ _ (by omega) (by omega)]; exact b4, by rw [hf _ _ (by omega) (by omega)]; exact b5, by rw [hf _ _ (by omega) (by omega)]; exact b6, by rw [hf _ _ (by omega) (by omega)]; exact b7, by rw [hf _ _ (by omega) (by omega)]; exact b8, by rw [hf _ _ (by omega) (by omega)]; exact b9, fun d hd w hw => by rw [hf _ _ (by omega) (by omega)]; exact bd d hd w hw, fun o ho w hw => by rw [hf _ _ (by omega) (by omega)]; exact bo o ho w hw, fun s hs => by rw [hf _ _ (by omega) (by omega), hf _ _ (by omega) (by omega), hf _ _ (by omega) (by omega), hf _ _ (by omega) (by omega)]; exact bs s hs, fun v hv => by rw [hf _ _ (by omega) (by omega)]; exact bv v hv, fun o ho w hw => by rw [hf _ _ (by omega) (by omega)]; exact br o ho w hw⟩
theorem SR_of (hB : Bk σ b β e) (hV : V β) : SR σ (b + 39) β (-1) := by
  obtain ⟨b0, b1, b2, b3, b4, b5, b6, b7, b8, b9, bd, bo, bs, bv, br⟩ := hB
  have vs := hV.2.2.2.2.2.2.2.2.2.2.2.2.1
  refine ⟨b7, fun s hs => ?_⟩
  obtain ⟨h1, h2, h3, h4⟩ := bs s hs
  have := vs s hs
  refine ⟨h1, h2, h3, by rw [h4]; exact this.2.2.2.2, ?_⟩
  rw [h4]
  omega
end VIT
