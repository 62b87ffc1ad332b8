/-! the class measures all sets -/
section PL3
variable {σ τ : xS} {q r n b : Nat} {β : Nat → Int} {D : Nat → Nat → Int} {S m p s : Nat} {x e : Int} {rd du ld : Nat → Int}
theorem nand_tab : ∀ a b : Fin 128, zand (a.val : Int) (zxor (b.val : Int) (-1)) = ((a.val &&& (127 ^^^ b.val) : Nat) : Int) := by decide +kernel
theorem nand_of {a b : Nat} (ha : a < 128) (hb : b < 128) : zand (a : Int) (zxor (b : Int) (-1)) = ((a &&& (127 ^^^ b) : Nat) : Int) := nand_tab ⟨a, ha⟩ ⟨b, hb⟩
/-- a part of a set -/
def sbP (a b : Nat) : Prop := ∀ s, s < 7 → a.testBit s = true → b.testBit s = true
theorem nand_lt {a b : Nat} (ha : a < 128) : a &&& (127 ^^^ b) < 128 := Nat.lt_of_le_of_lt Nat.and_le_left ha
theorem nand_bit {a b s : Nat} (hs : s < 7) : (a &&& (127 ^^^ b)).testBit s = (a.testBit s && !b.testBit s) := by
  rw [Nat.testBit_and, Nat.testBit_xor, show (127 : Nat) = 2 ^ 7 - 1 from rfl, Nat.testBit_two_pow_sub_one, decide_eq_true hs]
  cases b.testBit s <;> rfl
theorem nand_0 {a b : Nat} (ha : a < 128) : a &&& (127 ^^^ b) = 0 ↔ sbP a b := by
  constructor
  · intro h s hs t
    have h2 := nand_bit (a := a) (b := b) hs
    rw [h, Nat.zero_testBit, t] at h2
    cases hb : b.testBit s
    · rw [hb] at h2
      exact absurd h2 (by decide)
    · rfl
  · intro h
    refine bits_eq (nand_lt ha) (by omega) fun s hs => ?_
    rw [nand_bit hs, Nat.zero_testBit]
    cases t : a.testBit s
    · rfl
    · rw [h s hs t]
      rfl
theorem sbP_le {a b : Nat} (ha : a < 128) (h : sbP a b) : a ≤ b := by
  refine Nat.le_of_testBit fun i hi => ?_
  by_cases c : i < 7
  · exact h i c hi
  · have hp : (2 : Nat) ^ 7 ≤ 2 ^ i := Nat.pow_le_pow_right (by omega) (by omega)
    have := Nat.ge_two_pow_of_testBit hi
    omega
theorem c_measureSets (hM : RM σ (b + 39) D) (hT : RT σ (b + 39) D S) (hS : S ≤ 7) (hD : Fb 8 D) (hm : m < 2 ^ S) (hq : b + 39 + 14 < q) (hG : GR σ q rd du ld) (h3 : σ q 3 = (m : Int)) (hn : 4000000 ≤ n) :
    OK (m_X8_measureSets n q b σ) (fun τ => (∀ m', sbP m' m → m' < 128 → DR τ q D S rd du ld m') ∧ ∀ k j, ¬ (q + 4 ≤ k ∧ k ≤ q + 7) → k ≠ q + 11 → τ k j = σ k j) := by
  have h128 := pow_le7 hS hm
  unfold m_X8_measureSets
  refine loop_for (m + 1) (fun i (t : Int × xS) => t.1 = (i : Int) ∧ (∀ m', sbP m' m → m' < i → DR t.2 q D S rd du ld m') ∧ ∀ k j, ¬ (q + 4 ≤ k ∧ k ≤ q + 7) → k ≠ q + 11 → t.2 k j = σ k j) ?_ ?_ (by omega) ⟨rfl, fun m' _ h => absurd h (Nat.not_lt_zero _), fun _ _ _ _ => rfl⟩
  · rintro i ⟨u, τ⟩ hi ⟨h1, h2, h4⟩ rec hrec
    try dsimp only at h1 h2 h4 hrec ⊢
    subst h1
    have e3 : τ q 3 = (m : Int) := by rw [h4 _ _ (by omega) (by omega)]; exact h3
    simp only [e3]
    rw [zI_of (n := (m : Int)) (by omega) (by omega), zI_of (n := (i : Int)) (by omega) (by omega), if_neg (by omega), xj_eq, nand_of (by omega) h128]
    have hl := nand_lt (a := i) (b := m) (by omega)
    rw [zI_of (by omega) (by omega)]
    by_cases c : i &&& (127 ^^^ m) = 0
    · have hsb := (nand_0 (by omega)).mp c
      rw [if_pos (by omega)]
      have hMt : RM τ (b + 39) D := fun a c ha hc => by rw [h4 _ _ (by omega) (by omega)]; exact hM a c ha hc
      have hTt : RT τ (b + 39) D S := fun a c ha hc => by rw [h4 _ _ (by omega) (by omega)]; exact hT a c ha hc
      have hGt : GR τ q rd du ld := fun s hs => by
        rw [h4 _ _ (by omega) (by omega), h4 _ _ (by omega) (by omega), h4 _ _ (by omega) (by omega)]
        exact hG s hs
      refine OK_bind (c_drive hMt hTt hS hD (m := i) (by omega) hq hGt hn) (fun τ1 h => ?_)
      obtain ⟨d1, -, d3⟩ := h
      simp only [xlet_eq]
      refine hrec _ ⟨by (try dsimp only); omega, fun m' hs' hl' => ?_, fun k j c1 c2 => ?_⟩
      · by_cases e : m' = i
        · rw [e]
          exact d1
        · obtain ⟨w1, w2, w3, w4⟩ := h2 m' hs' (by omega)
          try dsimp only
          unfold DR
          rw [d3 _ _ (by omega) (by omega), d3 _ _ (by omega) (by omega), d3 _ _ (by omega) (by omega), d3 _ _ (by omega) (by omega)]
          exact ⟨w1, w2, w3, w4⟩
      · try dsimp only
        rw [d3 _ _ (by omega) (by omega)]
        exact h4 k j c1 c2
    · rw [if_neg (by omega)]
      simp only [xlet_eq]
      refine hrec _ ⟨by (try dsimp only); omega, fun m' hs' hl' => ?_, h4⟩
      by_cases e : m' = i
      · exact absurd ((nand_0 (by omega)).mpr (by rw [← e]; exact hs')) c
      · exact h2 m' hs' (by omega)
  · rintro ⟨u, τ⟩ ⟨h1, h2, h4⟩ rec
    try dsimp only at h1 h2 h4 ⊢
    subst h1
    have e3 : τ q 3 = (m : Int) := by rw [h4 _ _ (by omega) (by omega)]; exact h3
    simp only [e3]
    rw [zI_of (n := (m : Int)) (by omega) (by omega), zI_of (n := ((m + 1 : Nat) : Int)) (by omega) (by omega), if_pos (by omega)]
    exact OK_some ⟨fun m' hs' hl' => h2 m' hs' (by have := sbP_le hl' hs'; omega), h4⟩
end PL3
