/-! the reference's table of routes -/
section RO6
variable {σ τ : xS} {k r n : Nat} {β : Nat → Int} {D : Nat → Nat → Int} {S m p s : Nat} {x : Int}
def WT (σ : xS) (D : Nat → Nat → Int) (S : Nat) : Prop := ∀ m a, m < 2 ^ S → a < S + 1 → σ 206 (8 * m + a) = min 1000000 (rsF D S m (plN a))
def WD (σ : xS) (β : Nat → Int) : Prop := WM σ ((β 6).toNat + 1) (fun a c => dsF β (plN a) (plN c)) ∧ WT σ (dsF β) (β 6).toNat
theorem minFar {z1 z2 : Int} {f g : Nat → Int} (hz : min 1000000 z1 = min 1000000 z2) : ∀ n, (∀ i, i < n → min 1000000 (f i) = min 1000000 (g i)) → min 1000000 (minTo z1 n f) = min 1000000 (minTo z2 n g)
  | 0, _ => hz
  | n + 1, h => by
    have h1 := minFar hz n (fun i hi => h i (by omega))
    have h2 := h n (by omega)
    rw [minTo, minTo]
    omega
theorem plN_s (s : Nat) : plN (s + 1) = s := by
  unfold plN
  rw [if_neg (by omega)]
  omega
theorem plN_0 : plN 0 = 7 := rfl
theorem ixs (a s : Nat) : (8 * (a : Int) + (s : Int) + 1).toNat = 8 * a + (s + 1) := by omega
theorem r_findsRoutes (hk : 185 ≤ k ∧ k ≤ 187) (hβ : σ k = β) (hV : V β) (hn : 4000000 ≤ n) : OK (m_X13_findsRoutes n k σ) (fun τ => WD τ β ∧ ∀ a j, a ≠ 205 → a ≠ 206 → τ a j = σ a j) := by
  have v6 := hV.2.2.2.2.2.2.1
  unfold m_X13_findsRoutes
  refine OK_bind (r_findsWays hk hβ hV hn) (fun τ0 h0 => ?_)
  obtain ⟨hW, hfr⟩ := h0
  have hD := dsF_b hV
  generalize hDD : dsF β = D at hW hD
  obtain ⟨S, hS⟩ : ∃ S : Nat, (S : Int) = β 6 := ⟨(β 6).toNat, by omega⟩
  have eS : (β 6).toNat = S := by omega
  unfold WD
  rw [hDD]
  rw [eS] at hW ⊢
  have hS7 : S ≤ 7 := by omega
  have h2S := pow7 hS7
  have hk6 : ∀ t : xS, (∀ a j, a ≠ 206 → t a j = τ0 a j) → t k 6 = (S : Int) := fun t ht => by
    rw [ht _ _ (by omega), hfr _ _ (by omega), hβ, hS]
  refine loop_for (2 ^ S) (fun i (t : Int × xS) => t.1 = (i : Int) ∧ (∀ m a, m < i → a < S + 1 → t.2 206 (8 * m + a) = min 1000000 (rsF D S m (plN a))) ∧ (∀ a j, a ≠ 206 → t.2 a j = τ0 a j)) ?_ ?_ (by omega) ⟨rfl, fun m a hm => absurd hm (Nat.not_lt_zero _), fun _ _ _ => rfl⟩
  · rintro m ⟨u, τ⟩ hm ⟨h1, h2, h3⟩ rec hrec
    try dsimp only at h1 h2 h3 hrec ⊢
    subst h1
    have hm128 : m < 128 := by omega
    rw [xck_of (by omega) (by omega)]
    simp only [tn_lit, hk6 τ h3]
    rw [shl_of (show S < 8 by omega), zI_of (n := ((2 ^ S : Nat) : Int)) (by omega) (by omega), zI_of (n := (m : Int)) (by omega) (by omega), if_neg (by omega)]
    refine loop_for (S + 1) (fun j (t : Int × xS) => t.1 = (j : Int) ∧ (∀ m' a, m' < m ∨ (m' = m ∧ a < j) → a < S + 1 → t.2 206 (8 * m' + a) = min 1000000 (rsF D S m' (plN a))) ∧ (∀ a j, a ≠ 206 → t.2 a j = τ0 a j)) ?_ ?_ (by omega) ⟨rfl, fun m' a h ha => h2 m' a (by omega) ha, h3⟩
    · rintro a ⟨u, τ1⟩ ha ⟨g1, g2, g3⟩ rec1 hrec1
      try dsimp only at g1 g2 g3 hrec1 ⊢
      subst g1
      rw [xck_of (by omega) (by omega)]
      simp only [tn_lit, hk6 τ1 g3]
      rw [zI_of (n := (S : Int)) (by omega) (by omega), zI_of (n := (a : Int)) (by omega) (by omega), if_neg (by omega), xlet_eq]
      have hpa := plN_lt (a := a) (by omega)
      refine loop_for S (fun k (t : Int × Int) => t.2 = (k : Int) ∧ t.1 = minTo (if (m : Int) = 0 then 0 else 1000000) k (fun s => if m.testBit s = true then D (plN a) s + min 1000000 (rsF D S (m - 2 ^ s) s) else 1000000)) ?_ ?_ (by omega) ⟨rfl, rfl⟩
      · rintro s ⟨b, u⟩ hs ⟨f1, f2⟩ rec2 hrec2
        try dsimp only at f1 f2 hrec2 ⊢
        subst f1
        have hb : 0 ≤ b ∧ b ≤ 1000000 := by
          rw [f2]
          refine ⟨minTo_ge (by split <;> omega) _ (fun i hi => ?_), Int.le_trans (minTo_le _) (by split <;> omega)⟩
          try dsimp only
          split
          · rename_i t
            have hl := sub_le hm128 (by omega) t
            have q1 := (hD (plN a) hpa).2 i (by omega)
            have q2 := rsF_bd7 (p := i) hS7 hD (m := m - 2 ^ i) (by omega) (by omega)
            omega
          · omega
        rw [xck_of (by omega) (by omega), zI_of (n := (s : Int)) (by omega) (by omega), if_neg (by omega), xj_eq, has_of hm128 (by omega)]
        by_cases t : m.testBit s = true
        · have hl := sub_le hm128 (by omega) t
          have q1 := (hD (plN a) hpa).2 s (by omega)
          have q2 := rsF_bd7 (p := s) hS7 hD (m := m - 2 ^ s) (by omega) (by omega)
          have p7 := pow7 (i := s) (by omega)
          have e0 : (m : Int) - zshl 1 (s : Int) = ((m - 2 ^ s : Nat) : Int) := by rw [shl_of (by omega)]; omega
          have e1 : τ1 205 (8 * a + (s + 1)) = D (plN a) s := by
            rw [g3 _ _ (by omega), hW a (s + 1) (by omega) (by omega)]
            show D (plN a) (plN (s + 1)) = _
            rw [plN_s]
          have e2 : τ1 206 (8 * (m - 2 ^ s) + (s + 1)) = min 1000000 (rsF D S (m - 2 ^ s) s) := by
            rw [g2 (m - 2 ^ s) (s + 1) (by omega) (by omega), plN_s]
          rw [if_pos t, if_neg (by omega), e0]
          have hrw : minTo (if (m : Int) = 0 then 0 else 1000000) (s + 1) (fun s => if m.testBit s = true then D (plN a) s + min 1000000 (rsF D S (m - 2 ^ s) s) else 1000000) = min b (D (plN a) s + min 1000000 (rsF D S (m - 2 ^ s) s)) := by
            rw [minTo, if_pos t, ← f2]
          rw [hrw] at hrec2
          generalize m - 2 ^ s = M at e2 hl q2 hrec2 ⊢
          rw [zI_of (n := 8 * (a : Int) + (s : Int) + 1) (by omega) (by omega), zI_of (n := 8 * (M : Int) + (s : Int) + 1) (by omega) (by omega), xck_of (by omega) (by omega), xck_of (by omega) (by omega), ixs, ixs, e1, e2]
          simp only [xlet_eq]
          rw [r_lesser (by omega) (by omega) (by omega) (by omega)]
          exact hrec2 _ ⟨by (try dsimp only); omega, rfl⟩
        · rw [if_neg t, if_pos rfl]
          simp only [xlet_eq]
          refine hrec2 _ ⟨by (try dsimp only); omega, ?_⟩
          try dsimp only
          rw [minTo, if_neg t, ← f2]
          omega
      · rintro ⟨b, u⟩ ⟨f1, f2⟩ rec2
        try dsimp only at f1 f2 ⊢
        subst f1
        have hb : 0 ≤ b ∧ b ≤ 1000000 := by
          rw [f2]
          refine ⟨minTo_ge (by split <;> omega) _ (fun i hi => ?_), Int.le_trans (minTo_le _) (by split <;> omega)⟩
          try dsimp only
          split
          · rename_i t
            have hl := sub_le hm128 (by omega) t
            have q1 := (hD (plN a) hpa).2 i (by omega)
            have q2 := rsF_bd7 (p := i) hS7 hD (m := m - 2 ^ i) (by omega) (by omega)
            omega
          · omega
        have hv : min b 1000000 = min 1000000 (rsF D S m (plN a)) := by
          rw [Int.min_comm, f2, rsF_eq hS7 hm128]
          by_cases c : m = 0
          · subst c
            rw [if_pos rfl, if_pos (show ((0 : Nat) : Int) = 0 from rfl)]
            have : minTo 0 S (fun s => if (0 : Nat).testBit s = true then D (plN a) s + min 1000000 (rsF D S (0 - 2 ^ s) s) else 1000000) = 0 := by
              refine Int.le_antisymm (minTo_le _) (minTo_ge (by omega) _ (fun i hi => ?_))
              try dsimp only
              rw [Nat.zero_testBit, if_neg (by decide)]
              omega
            rw [this]
          · rw [if_neg (by omega), if_neg c]
            refine minFar (by omega) S (fun i hi => ?_)
            by_cases t : m.testBit i = true
            · have hl := sub_le hm128 (by omega) t
              have q1 := (hD (plN a) hpa).2 i (by omega)
              have q2 := rsF_bd7 (p := i) hS7 hD (m := m - 2 ^ i) (by omega) (by omega)
              rw [if_pos t, if_pos t]
              unfold byF
              omega
            · rw [if_neg t, if_neg t]
              omega
        rw [xck_of (by omega) (by omega), zI_of (n := (S : Int)) (by omega) (by omega), if_pos (by omega), zI_of (n := 8 * (m : Int) + (a : Int)) (by omega) (by omega), xck_of (by omega) (by omega), xlet_eq, xlet_eq, ix8, r_lesser (by omega) (by omega) (by omega) (by omega), hv]
        refine hrec1 _ ⟨by (try dsimp only); omega, fun m' a' h' ha' => ?_, fun a' j hk' => ?_⟩
        · try dsimp only
          by_cases c : m' = m ∧ a' = a
          · rw [c.1, c.2, xput_eq]
          · rw [xput_ne (by omega)]
            exact g2 m' a' (by omega) ha'
        · try dsimp only
          rw [xput_ne (by omega)]
          exact g3 a' j hk'
    · rintro ⟨u, τ1⟩ ⟨g1, g2, g3⟩ rec1
      try dsimp only at g1 g2 g3 ⊢
      subst g1
      rw [xck_of (by omega) (by omega)]
      simp only [tn_lit, hk6 τ1 g3]
      rw [zI_of (n := (S : Int)) (by omega) (by omega), zI_of (n := ((S + 1 : Nat) : Int)) (by omega) (by omega), if_pos (by omega), xlet_eq]
      exact hrec _ ⟨by (try dsimp only); omega, fun m' a hm' ha => g2 m' a (by omega) ha, g3⟩
  · rintro ⟨u, τ⟩ ⟨h1, h2, h3⟩ rec
    try dsimp only at h1 h2 h3 ⊢
    subst h1
    rw [xck_of (by omega) (by omega)]
    simp only [tn_lit, hk6 τ h3]
    rw [shl_of (show S < 8 by omega), zI_of (n := ((2 ^ S : Nat) : Int)) (by omega) (by omega), if_pos (by omega)]
    refine OK_some ⟨⟨fun a c ha hc => ?_, h2⟩, fun a j ha hb => ?_⟩
    · rw [h3 _ _ (by omega)]
      exact hW a c ha hc
    · rw [h3 _ _ hb]
      exact hfr a j ha
end RO6
