/-! behind the constructors: what the class holds -/
section INI
variable {σ τ : xS} {n b : Nat} {e : Int}
theorem δ0_V : V δ0 ∧ V0 δ0 := ⟨(PSV_S0 (T := fun _ => 0) (L := 0)).1, (PSV_S0 (T := fun _ => 0) (L := 0)).2.1⟩
theorem c_clear0 (hb : b = 6 ∨ b = 60) : OK (m_X1_clear b σ) (fun τ => Bk τ b δ0 0 ∧ ∀ k j, k ≠ b → ¬ (k = b + 39 ∧ j = 4) → τ k j = σ k j) := by
  unfold m_X1_clear
  simp only [xlet_eq]
  refine OK_some ⟨⟨?_, ?_, ?_, ?_, ?_, ?_, ?_, ?_, ?_, ?_, fun d h => absurd h (by show ¬ (d : Int) < 0; omega), fun d h => absurd h (by show ¬ (d : Int) < 0; omega), fun d h => absurd h (by show ¬ (d : Int) < 0; omega), fun d h => absurd h (by show ¬ (d : Int) < 0; omega), fun d h => absurd h (by show ¬ (d : Int) < 0; omega)⟩, fun k j h1 h2 => ?_⟩
  · rw [xput_ne (by omega), xput_ne (by omega), xput_ne (by omega), xput_ne (by omega), xput_ne (by omega), xput_ne (by omega), xput_ne (by omega), xput_ne (by omega), xput_ne (by omega), xput_eq]; rfl
  · rw [xput_ne (by omega), xput_ne (by omega), xput_ne (by omega), xput_ne (by omega), xput_ne (by omega), xput_ne (by omega), xput_ne (by omega), xput_ne (by omega), xput_eq]; rfl
  · rw [xput_ne (by omega), xput_ne (by omega), xput_ne (by omega), xput_ne (by omega), xput_ne (by omega), xput_ne (by omega), xput_ne (by omega), xput_eq]; rfl
  · rw [xput_ne (by omega), xput_ne (by omega), xput_ne (by omega), xput_ne (by omega), xput_ne (by omega), xput_ne (by omega), xput_eq]; rfl
  · rw [xput_ne (by omega), xput_ne (by omega), xput_ne (by omega), xput_ne (by omega), xput_ne (by omega), xput_eq]; rfl
  · rw [xput_ne (by omega), xput_ne (by omega), xput_ne (by omega), xput_ne (by omega), xput_eq]; rfl
  · rw [xput_ne (by omega), xput_ne (by omega), xput_ne (by omega), xput_eq]; rfl
  · rw [xput_ne (by omega), xput_ne (by omega), xput_eq]; rfl
  · rw [xput_ne (by omega), xput_eq]; rfl
  · rw [xput_eq]; rfl
  · rw [xput_ne (by omega), xput_ne (by omega), xput_ne (by omega), xput_ne (by omega), xput_ne (by omega), xput_ne (by omega), xput_ne (by omega), xput_ne (by omega), xput_ne (by omega), xput_ne (by omega)]
/-- a bakery made -/
theorem c_bak0 (hb : b = 6 ∨ b = 60) (hn : 4000000 ≤ n) : ∃ s1 s2, m_X1_clear b σ = some s1 ∧ m_X9_explore n (b + 39) 0 (-1) s1 = some s2 ∧ Bk s2 b δ0 0 ∧ RD s2 (b + 39) δ0 ∧ ∀ k j, ¬ (b ≤ k ∧ k < b + 54) → s2 k j = σ k j := by
  obtain ⟨s1, h1, hB, hf⟩ := c_clear0 (σ := σ) hb
  obtain ⟨s2, h2, hR, hg⟩ := c_explore (σ := s1) (r := b + 39) (x := -1) (n := n) δ0_V.1 (SR_of hB δ0_V.1) (by omega) hn
  refine ⟨s1, s2, h1, h2, Bk_low hB δ0_V.1 (fun k j c1 c2 => hg k j (by omega)), hR, fun k j c => ?_⟩
  rw [hg k j (by omega), hf k j (by omega) (by omega)]
/-- between two bakeries: nothing fed, one bakery in use, one to write into -/
def JS (σ : xS) : Prop := σ 0 1 = 0 ∧ (∀ j, -128 ≤ σ 1 j ∧ σ 1 j ≤ 127) ∧ ((σ 0 3 = 0 ∧ σ 0 4 = 1) ∨ (σ 0 3 = 1 ∧ σ 0 4 = 0))
/-- a fresh object -/
def J0S (σ : xS) : Prop := Bk σ 6 δ0 0 ∧ RD σ 45 δ0 ∧ (∀ k j, ¬ (6 ≤ k ∧ k < 114) → ¬ (k = 2 ∧ j = 8) → ¬ (k = 0 ∧ j = 4) → σ k j = 0) ∧ σ 0 4 = 1 ∧ σ 2 8 = -1
/-- all that the constructor leaves -/
theorem ini_c (hn : 4000000 ≤ n) : ∃ s1 s2 s3 s4, m_X1_clear 6 (xput (fun _ _ => 0) 2 8 (-1)) = some s1 ∧ m_X9_explore n (6 + 39) 0 (-1) s1 = some s2 ∧ m_X1_clear 60 s2 = some s3 ∧ m_X9_explore n (60 + 39) 0 (-1) s3 = some s4 ∧ (∀ k j, 59 < k → s2 k j = 0) ∧ (∀ k j, 113 < k → s4 k j = 0) ∧ s2 0 3 = 0 ∧ J0S (xput s4 0 4 1) := by
  obtain ⟨s1, s2, h1, h2, hB, hR, hf⟩ := c_bak0 (σ := xput (fun _ _ => 0) 2 8 (-1)) (b := 6) (Or.inl rfl) hn
  obtain ⟨s3, s4, h3, h4, hB2, hR2, hf2⟩ := c_bak0 (σ := s2) (b := 60) (Or.inr rfl) hn
  have f2 : ∀ k j, ¬ (6 ≤ k ∧ k < 60) → ¬ (k = 2 ∧ j = 8) → s2 k j = 0 := fun k j c1 c2 => by
    rw [hf k j (by omega), xput_ne (by omega)]
  have f4 : ∀ k j, ¬ (6 ≤ k ∧ k < 114) → ¬ (k = 2 ∧ j = 8) → s4 k j = 0 := fun k j c1 c2 => by
    rw [hf2 k j (by omega), f2 k j (by omega) c2]
  have f56 : ∀ k j, 6 ≤ k → k < 60 → xput s4 0 4 1 k j = s2 k j := fun k j c1 c2 => by
    rw [xput_ne (by omega), hf2 k j (by omega)]
  refine ⟨s1, s2, s3, s4, h1, h2, h3, h4, fun k j hk => f2 k j (by omega) (by omega), fun k j hk => f4 k j (by omega) (by omega), f2 _ _ (by omega) (by omega), Bk_same hB δ0_V.1 (fun k j c1 c2 => f56 k j (by omega) (by omega)), RD_same hR (fun a j c1 c2 => f56 a j (by omega) (by omega)), fun k j c1 c2 c3 => by rw [xput_ne (by omega), f4 k j c1 c2], xput_eq, by rw [xput_ne (by omega), hf2 _ _ (by omega), hf _ _ (by omega), xput_eq]⟩
end INI
