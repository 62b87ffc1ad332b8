/-! behind the constructors: class and reference agree -/
section INI
variable {σ τ : xS} {n b : Nat} {e : Int}
theorem δ0_V : V δ0 ∧ V0 δ0 := ⟨(PSV_S0 (T := fun _ => 0) (L := 0)).1, (PSV_S0 (T := fun _ => 0) (L := 0)).2.1⟩
theorem c_clear0 (hb : b = 6 ∨ b = 60) : OK (m_X1_clear b σ) (fun τ => Bk τ b δ0 0 ∧ ∀ k j, k ≠ b → ¬ (k = b + 39 ∧ j = 4) → τ k j = σ k j) := by
  unfold m_X1_clear
  simp only [xlet_eq]
  refine OK_some ⟨⟨?_, ?_, ?_, ?_, ?_, ?_, ?_, ?_, ?_, ?_, fun d h => absurd h (by show ¬ (d : Int) < 0; omega), fun d h => absurd h (by show ¬ (d : Int) < 0; omega), fun d h => absurd h (by show ¬ (d : Int) < 0; omega), fun d h => absurd h (by show ¬ (d : Int) < 0; omega), fun d h => absurd h (by show ¬ (d : Int) < 0; omega)⟩, fun k j h1 h2 => ?_⟩
  · rw [xput_ne (by omega), xput_ne (by omega), xput_ne (by omega), xput_ne (by omega), xput_ne (by omega), xput_ne (by omega), xput_ne (by omega), xput_ne (by omega), xput_ne (by omega), xput_eq]; rfl
  · rw [xput_ne (by omega), xput_ne (by omega), xput_ne (by omega), xput_ne (by omega), xput_ne (by omega), xput_ne (by omega), xput_ne (by omega), xput_ne (by omega), xput_eq]; rfl
  · rw [xput_ne (by omega), xput_ne (by omega), xput_ne (by omega), xput_ne (by omega), xput_ne (by omega), xput_ne (by omega), xput_ne (by omega), xput_eq]; rfl
  · rw [xput_ne (by omega), xput_ne (by omega), xput_ne (by omega), xput_ne (by omega), xput_ne (by omega), xput_ne (by omega), xput_eq]; rfl
  · rw [xput_ne (by omega), xput_ne (by omega), xput_ne (by omega), xput_ne (by omega), xput_ne (by omega), xput_eq]; rfl
  · rw [xput_ne (by omega), xput_ne (by omega), xput_ne (by omega), xput_ne (by omega), xput_eq]; rfl
  · rw [xput_ne (by omega), xput_ne (by omega), xput_ne (by omega), xput_eq]; rfl
  · rw [xput_ne (by omega), xput_ne (by omega), xput_eq]; rfl
  · rw [xput_ne (by omega), xput_eq]; rfl
  · rw [xput_eq]; rfl
  · rw [xput_ne (by omega), xput_ne (by omega), xput_ne (by omega), xput_ne (by omega), xput_ne (by omega), xput_ne (by omega), xput_ne (by omega), xput_ne (by omega), xput_ne (by omega), xput_ne (by omega)]
/-- a bakery made -/
theorem c_bak0 (hb : b = 6 ∨ b = 60) (hn : 4000000 ≤ n) : ∃ s1 s2, m_X1_clear b σ = some s1 ∧ m_X9_explore n (b + 39) 0 (-1) s1 = some s2 ∧ Bk s2 b δ0 0 ∧ RD s2 (b + 39) δ0 ∧ ∀ k j, ¬ (b ≤ k ∧ k < b + 54) → s2 k j = σ k j := by
  obtain ⟨s1, h1, hB, hf⟩ := c_clear0 (σ := σ) hb
  obtain ⟨s2, h2, hR, hg⟩ := c_explore (σ := s1) (r := b + 39) (x := -1) (n := n) δ0_V.1 (SR_of hB δ0_V.1) (by omega) hn
  refine ⟨s1, s2, h1, h2, Bk_low hB δ0_V.1 (fun k j c1 c2 => hg k j (by omega)), hR, fun k j c => ?_⟩
  rw [hg k j (by omega), hf k j (by omega) (by omega)]
theorem r_empties0 (hn : 4000000 ≤ n) : OK (m_X13_empties n 185 σ) (fun τ => (∀ i, i < 289 → τ 185 i = δ0 i) ∧ (∀ i, ¬ i < 289 → τ 185 i = σ 185 i) ∧ ∀ k j, k ≠ 185 → τ k j = σ k j) := by
  unfold m_X13_empties
  refine loop_for 289 (fun i (t : Int × xS) => t.1 = (i : Int) ∧ (∀ j, j < i → t.2 185 j = 0) ∧ (∀ j, ¬ j < 289 → t.2 185 j = σ 185 j) ∧ ∀ k j, k ≠ 185 → t.2 k j = σ k j) ?_ ?_ (by omega) ⟨rfl, fun j hj => absurd hj (Nat.not_lt_zero _), fun _ _ => rfl, fun _ _ _ => rfl⟩
  · rintro i t hi ⟨g1, g2, g2', g3⟩ rec hrec
    try dsimp only
    rw [g1, zI_of (n := (i : Int)) (by omega) (by omega), if_neg (by omega), xck_of (by omega) (by omega), xlet_eq, xlet_eq, tn_cast]
    refine hrec _ ⟨by show (i : Int) + 1 = _; omega, fun j hj => ?_, fun j hj => ?_, fun k j hk => ?_⟩
    · show xput t.2 185 i 0 185 j = 0
      by_cases e : j = i
      · subst e
        exact xput_eq
      · rw [xput_ne (by omega)]
        exact g2 j (by omega)
    · show xput t.2 185 i 0 185 j = _
      rw [xput_ne (by omega)]
      exact g2' j hj
    · show xput t.2 185 i 0 k j = _
      rw [xput_ne (by omega)]
      exact g3 k j hk
  · rintro t ⟨g1, g2, g2', g3⟩ rec
    try dsimp only
    rw [g1, zI_of (n := ((289 : Nat) : Int)) (by omega) (by omega), if_pos (by omega), xck_of (by omega) (by omega), xlet_eq, xck_of (by omega) (by omega), xlet_eq, xck_of (by omega) (by omega), xlet_eq, xck_of (by omega) (by omega), xlet_eq, show (0 : Int).toNat = 0 from rfl, show (1 : Int).toNat = 1 from rfl, show (2 : Int).toNat = 2 from rfl, show (3 : Int).toNat = 3 from rfl]
    refine OK_some ⟨fun i hi => ?_, fun i hi => ?_, fun k j hk => ?_⟩
    · by_cases e3 : i = 3
      · subst e3
        exact xput_eq
      · rw [xput_ne (by omega)]
        by_cases e2 : i = 2
        · subst e2
          exact xput_eq
        · rw [xput_ne (by omega)]
          by_cases e1 : i = 1
          · subst e1
            exact xput_eq
          · rw [xput_ne (by omega)]
            by_cases e0 : i = 0
            · subst e0
              exact xput_eq
            · rw [xput_ne (by omega), g2 i hi]
              unfold δ0
              rw [if_neg e0, if_neg e1, if_neg e2, if_neg e3]
    · rw [xput_ne (by omega), xput_ne (by omega), xput_ne (by omega), xput_ne (by omega)]
      exact g2' i hi
    · rw [xput_ne (by omega), xput_ne (by omega), xput_ne (by omega), xput_ne (by omega)]
      exact g3 k j hk
/-- all that the constructors leave -/
theorem ini_all (hn : 4000000 ≤ n) : ∃ s1 s2 s3 s4 s5, m_X1_clear 6 (xput (fun _ _ => 0) 2 8 (-1)) = some s1 ∧ m_X9_explore n (6 + 39) 0 (-1) s1 = some s2 ∧ m_X1_clear 60 s2 = some s3 ∧ m_X9_explore n (60 + 39) 0 (-1) s3 = some s4 ∧ (∀ k j, 59 < k → s2 k j = 0) ∧ (∀ k j, 113 < k → s4 k j = 0) ∧ s2 0 3 = 0 ∧ m_X13_empties n 185 (xput (xput s4 0 4 1) 184 13 (-1)) = some s5 ∧ (∀ k j, 185 < k → s5 k j = 0) ∧ TI s5 := by
  obtain ⟨s1, s2, h1, h2, hB, hR, hf⟩ := c_bak0 (σ := xput (fun _ _ => 0) 2 8 (-1)) (b := 6) (Or.inl rfl) hn
  obtain ⟨s3, s4, h3, h4, hB2, hR2, hf2⟩ := c_bak0 (σ := s2) (b := 60) (Or.inr rfl) hn
  obtain ⟨s5, h5, g1, g2, g3⟩ := r_empties0 (σ := xput (xput s4 0 4 1) 184 13 (-1)) hn
  have f2 : ∀ k j, ¬ (6 ≤ k ∧ k < 60) → ¬ (k = 2 ∧ j = 8) → s2 k j = 0 := fun k j c1 c2 => by
    rw [hf k j (by omega), xput_ne (by omega)]
  have f4 : ∀ k j, ¬ (6 ≤ k ∧ k < 114) → ¬ (k = 2 ∧ j = 8) → s4 k j = 0 := fun k j c1 c2 => by
    rw [hf2 k j (by omega), f2 k j (by omega) c2]
  have f5 : ∀ k j, ¬ (6 ≤ k ∧ k < 114) → ¬ (k = 2 ∧ j = 8) → ¬ (k = 0 ∧ j = 4) → ¬ (k = 184 ∧ j = 13) → k ≠ 185 → s5 k j = 0 := fun k j c1 c2 c3 c4 c5 => by
    rw [g3 k j c5, xput_ne (by omega), xput_ne (by omega), f4 k j c1 c2]
  have f56 : ∀ k j, 6 ≤ k → k < 60 → s5 k j = s2 k j := fun k j c1 c2 => by
    rw [g3 k j (by omega), xput_ne (by omega), xput_ne (by omega), hf2 k j (by omega)]
  have z28 : s5 2 8 = -1 := by rw [g3 _ _ (by omega), xput_ne (by omega), xput_ne (by omega), hf2 _ _ (by omega), hf _ _ (by omega), xput_eq]
  have z04 : s5 0 4 = 1 := by rw [g3 _ _ (by omega), xput_ne (by omega), xput_eq]
  have z13 : s5 184 13 = -1 := by rw [g3 _ _ (by omega), xput_eq]
  have z03 : s5 0 3 = 0 := f5 _ _ (by omega) (by omega) (by omega) (by omega) (by omega)
  have z08 : s5 0 8 = 0 := f5 _ _ (by omega) (by omega) (by omega) (by omega) (by omega)
  have eqB : Eq289 δ0 (s5 185) := fun i hi => g1 i hi
  have hV : V (s5 185) := V_congr δ0_V.1 eqB
  refine ⟨s1, s2, s3, s4, s5, h1, h2, h3, h4, fun k j hk => f2 k j (by omega) (by omega), fun k j hk => f4 k j (by omega) (by omega), f2 _ _ (by omega) (by omega), h5, fun k j hk => f5 k j (by omega) (by omega) (by omega) (by omega) (by omega), s5 185, 0, 0, fun _ => s5 185, ⟨⟨?_, rfl, hV, Or.inl ⟨z08, f5 _ _ (by omega) (by omega) (by omega) (by omega) (by omega)⟩⟩, ?_, fun h8 => ?_, f5 _ _ (by omega) (by omega) (by omega) (by omega) (by omega)⟩, V0_congr δ0_V.1 δ0_V.2 eqB, ⟨by omega, rfl, f5 _ _ (by omega) (by omega) (by omega) (by omega) (by omega), f5 _ _ (by omega) (by omega) (by omega) (by omega) (by omega), fun i hi => absurd hi (Nat.not_lt_zero _)⟩, ⟨f5 _ _ (by omega) (by omega) (by omega) (by omega) (by omega), f5 _ _ (by omega) (by omega) (by omega) (by omega) (by omega), by omega, ?_, fun q => ?_⟩, ⟨?_, ?_, ?_, ?_⟩, Or.inl ⟨z03, z04⟩⟩
  · rw [z03]
    show Bk s5 6 (s5 185) 0
    exact Bk_congr (Bk_same hB δ0_V.1 (fun k j c1 c2 => f56 k j (by omega) (by omega))) δ0_V.1 eqB
  · rw [z03]
    show RD s5 45 (s5 185)
    exact RD_same (RD_congr hR δ0_V.1 (fun i hi _ => eqB i (by omega))) (fun a j c1 c2 => f56 a j (by omega) (by omega))
  · rw [z08] at h8
    exact absurd h8 (by omega)
  · funext q
    rw [f5 _ _ (by omega) (by omega) (by omega) (by omega) (by omega), f5 _ _ (by omega) (by omega) (by omega) (by omega) (by omega)]
  · rw [f5 _ _ (by omega) (by omega) (by omega) (by omega) (by omega)]
    omega
  · rw [f5 _ _ (by omega) (by omega) (by omega) (by omega) (by omega), f5 _ _ (by omega) (by omega) (by omega) (by omega) (by omega)]
  · rw [z28, z13]
  · rw [f5 _ _ (by omega) (by omega) (by omega) (by omega) (by omega)]; omega
  · rw [z13]; omega
end INI
