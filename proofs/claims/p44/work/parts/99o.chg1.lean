/-! changes: the class's bakery behind one of them, forward and back -/
section CHG1
variable {σ τ : xS} {b : Nat} {γ δ : Nat → Int}
theorem Bk_room (hB : Bk σ b γ 0) (hV : V γ) (hd : ∀ i, i < 289 → i ≠ 0 → δ i = γ i) (ht : ∀ k j, b ≤ k → k < b + 45 → ¬ (k = b ∧ j = 0) → τ k j = σ k j) (h0 : τ b 0 = δ 0) : Bk τ b δ 0 := by
  obtain ⟨b0, b1, b2, b3, b4, b5, b6, b7, b8, b9, bd, bo, bs, bv, br⟩ := hB
  obtain ⟨v0, v1, v2, v3, v4, v5, v6, v7, v8, v9, -⟩ := hV
  have e : ∀ i, 1 ≤ i → i < 289 → δ i = γ i := fun i h1 h2 => hd i h2 (by omega)
  refine ⟨h0, ?_, ?_, ?_, ?_, ?_, ?_, ?_, ?_, ?_, keepD bd v4.2 (e _ (by omega) (by omega)) (fun k j c1 c2 => ht k j (by omega) (by omega) (by omega)) (fun i c1 c2 => e _ (by omega) (by omega)), keepO bo v5.2 (e _ (by omega) (by omega)) (fun k j c1 c2 => ht k j (by omega) (by omega) (by omega)) (fun i c1 c2 => e _ (by omega) (by omega)), keepS bs v7.2 (e _ (by omega) (by omega)) (fun k j c1 c2 => ht k j (by omega) (by omega) (by omega)) (fun i c1 c2 => e _ (by omega) (by omega)), keepV (fun v hv => by rw [bv v hv]) v8.2 (e _ (by omega) (by omega)) (fun j => ht _ j (by omega) (by omega) (by omega)) (fun i c1 c2 => e _ (by omega) (by omega)), keepR br v9.2 (e _ (by omega) (by omega)) (fun k j c1 c2 => ht k j (by omega) (by omega) (by omega)) (fun i c1 c2 => e _ (by omega) (by omega))⟩
  all_goals rw [ht _ _ (by omega) (by omega) (by omega), e _ (by omega) (by omega)]; assumption
theorem Bk_oven {o : Nat} (ho : o < 4) (hB : Bk σ b γ 0) (hV : V γ) (hd : ∀ i, i < 289 → i ≠ 70 + 4 * o + 3 → δ i = γ i) (ht : ∀ k j, b ≤ k → k < b + 45 → ¬ (k = b + 9 + o ∧ j = 3) → τ k j = σ k j) (h0 : τ (b + 9 + o) 3 = ovF δ o 3) : Bk τ b δ 0 := by
  obtain ⟨b0, b1, b2, b3, b4, b5, b6, b7, b8, b9, bd, bo, bs, bv, br⟩ := hB
  obtain ⟨v0, v1, v2, v3, v4, v5, v6, v7, v8, v9, -⟩ := hV
  refine ⟨?_, ?_, ?_, ?_, ?_, ?_, ?_, ?_, ?_, ?_, keepD bd v4.2 (hd _ (by omega) (by omega)) (fun k j c1 c2 => ht k j (by omega) (by omega) (by omega)) (fun i c1 c2 => hd _ (by omega) (by omega)), fun o' h' w hw => ?_, keepS bs v7.2 (hd _ (by omega) (by omega)) (fun k j c1 c2 => ht k j (by omega) (by omega) (by omega)) (fun i c1 c2 => hd _ (by omega) (by omega)), keepV (fun v hv => by rw [bv v hv]) v8.2 (hd _ (by omega) (by omega)) (fun j => ht _ j (by omega) (by omega) (by omega)) (fun i c1 c2 => hd _ (by omega) (by omega)), keepR br v9.2 (hd _ (by omega) (by omega)) (fun k j c1 c2 => ht k j (by omega) (by omega) (by omega)) (fun i c1 c2 => hd _ (by omega) (by omega))⟩
  all_goals first | (rw [ht _ _ (by omega) (by omega) (by omega), hd _ (by omega) (by omega)]; assumption) | skip
  rw [hd 5 (by omega) (by omega)] at h'
  by_cases c : o' = o ∧ w = 3
  · obtain ⟨rfl, rfl⟩ := c
    exact h0
  · rw [ht _ _ (by omega) (by omega) (by omega), bo o' h' w hw]
    exact (hd _ (by omega) (by omega)).symm
theorem Bk_street {s : Nat} (hs : s < 20) (hB : Bk σ b γ 0) (hV : V γ) (hd : ∀ i, i < 289 → i ≠ 86 + 4 * s + 3 → δ i = γ i) (ht : ∀ k j, b ≤ k → k < b + 45 → ¬ (k = b + 39 + 4 ∧ j = s) → τ k j = σ k j) (h0 : τ (b + 39 + 4) s = stF δ s 3) : Bk τ b δ 0 := by
  obtain ⟨b0, b1, b2, b3, b4, b5, b6, b7, b8, b9, bd, bo, bs, bv, br⟩ := hB
  obtain ⟨v0, v1, v2, v3, v4, v5, v6, v7, v8, v9, -⟩ := hV
  refine ⟨?_, ?_, ?_, ?_, ?_, ?_, ?_, ?_, ?_, ?_, keepD bd v4.2 (hd _ (by omega) (by omega)) (fun k j c1 c2 => ht k j (by omega) (by omega) (by omega)) (fun i c1 c2 => hd _ (by omega) (by omega)), keepO bo v5.2 (hd _ (by omega) (by omega)) (fun k j c1 c2 => ht k j (by omega) (by omega) (by omega)) (fun i c1 c2 => hd _ (by omega) (by omega)), fun t h' => ?_, keepV (fun v hv => by rw [bv v hv]) v8.2 (hd _ (by omega) (by omega)) (fun j => ht _ j (by omega) (by omega) (by omega)) (fun i c1 c2 => hd _ (by omega) (by omega)), keepR br v9.2 (hd _ (by omega) (by omega)) (fun k j c1 c2 => ht k j (by omega) (by omega) (by omega)) (fun i c1 c2 => hd _ (by omega) (by omega))⟩
  all_goals first | (rw [ht _ _ (by omega) (by omega) (by omega), hd _ (by omega) (by omega)]; assumption) | skip
  rw [hd 7 (by omega) (by omega)] at h'
  obtain ⟨i1, i2, i3, i4⟩ := bs t h'
  have e : ∀ w, w < 3 → stF δ t w = stF γ t w := fun w hw => hd _ (by omega) (by omega)
  rw [ht _ _ (by omega) (by omega) (by omega), ht _ _ (by omega) (by omega) (by omega), ht _ _ (by omega) (by omega) (by omega), e 0 (by omega), e 1 (by omega), e 2 (by omega)]
  refine ⟨i1, i2, i3, ?_⟩
  by_cases c : t = s
  · subst c
    exact h0
  · rw [ht _ _ (by omega) (by omega) (by omega), i4]
    exact (hd _ (by omega) (by omega)).symm
theorem Bk_order {o v : Nat} (ho : o < 24) (hv5 : v < 5) (hB : Bk σ b γ 0) (hV : V γ) (hd : ∀ i, i < 289 → i ≠ 169 + 5 * o + v → δ i = γ i) (ht : ∀ k j, b ≤ k → k < b + 45 → ¬ (k = b + 14 + o ∧ j = v) → τ k j = σ k j) (h0 : τ (b + 14 + o) v = oF δ o v) : Bk τ b δ 0 := by
  obtain ⟨b0, b1, b2, b3, b4, b5, b6, b7, b8, b9, bd, bo, bs, bv, br⟩ := hB
  obtain ⟨v0, v1, v2, v3, v4, v5, v6, v7, v8, v9, -⟩ := hV
  refine ⟨?_, ?_, ?_, ?_, ?_, ?_, ?_, ?_, ?_, ?_, keepD bd v4.2 (hd _ (by omega) (by omega)) (fun k j c1 c2 => ht k j (by omega) (by omega) (by omega)) (fun i c1 c2 => hd _ (by omega) (by omega)), keepO bo v5.2 (hd _ (by omega) (by omega)) (fun k j c1 c2 => ht k j (by omega) (by omega) (by omega)) (fun i c1 c2 => hd _ (by omega) (by omega)), keepS bs v7.2 (hd _ (by omega) (by omega)) (fun k j c1 c2 => ht k j (by omega) (by omega) (by omega)) (fun i c1 c2 => hd _ (by omega) (by omega)), keepV (fun v hv => by rw [bv v hv]) v8.2 (hd _ (by omega) (by omega)) (fun j => ht _ j (by omega) (by omega) (by omega)) (fun i c1 c2 => hd _ (by omega) (by omega)), fun o' h' w hw => ?_⟩
  all_goals first | (rw [ht _ _ (by omega) (by omega) (by omega), hd _ (by omega) (by omega)]; assumption) | skip
  rw [hd 9 (by omega) (by omega)] at h'
  by_cases c : o' = o ∧ w = v
  · obtain ⟨rfl, rfl⟩ := c
    exact h0
  · rw [ht _ _ (by omega) (by omega) (by omega), br o' h' w hw]
    exact (hd _ (by omega) (by omega)).symm
/-- orders come or go at the end: m of them now -/
theorem Bk_orders {m : Nat} (hm : m ≤ 24) (hB : Bk σ b γ 0) (hV : V γ) (h9 : δ 9 = (m : Int)) (hd : ∀ i, i < 169 → i ≠ 9 → δ i = γ i) (ht : ∀ k j, b ≤ k → k < b + 45 → ¬ (k = b ∧ j = 13) → ¬ (b + 14 ≤ k ∧ k < b + 38) → τ k j = σ k j) (h0 : τ b 13 = δ 9) (hr : ∀ o w, o < m → w < 5 → τ (b + 14 + o) w = oF δ o w) : Bk τ b δ 0 := by
  obtain ⟨b0, b1, b2, b3, b4, b5, b6, b7, b8, b9, bd, bo, bs, bv, br⟩ := hB
  obtain ⟨v0, v1, v2, v3, v4, v5, v6, v7, v8, v9, -⟩ := hV
  refine ⟨?_, ?_, ?_, ?_, ?_, ?_, ?_, ?_, ?_, h0, keepD bd v4.2 (hd _ (by omega) (by omega)) (fun k j c1 c2 => ht k j (by omega) (by omega) (by omega) (by omega)) (fun i c1 c2 => hd _ (by omega) (by omega)), keepO bo v5.2 (hd _ (by omega) (by omega)) (fun k j c1 c2 => ht k j (by omega) (by omega) (by omega) (by omega)) (fun i c1 c2 => hd _ (by omega) (by omega)), keepS bs v7.2 (hd _ (by omega) (by omega)) (fun k j c1 c2 => ht k j (by omega) (by omega) (by omega) (by omega)) (fun i c1 c2 => hd _ (by omega) (by omega)), keepV (fun v hv => by rw [bv v hv]) v8.2 (hd _ (by omega) (by omega)) (fun j => ht _ j (by omega) (by omega) (by omega) (by omega)) (fun i c1 c2 => hd _ (by omega) (by omega)), fun o h' w hw => hr o w (by omega) hw⟩
  all_goals (rw [ht _ _ (by omega) (by omega) (by omega) (by omega), hd _ (by omega) (by omega)]; assumption)
end CHG1
