/-! the class's roads: the routes, all -/
section RO4
variable {σ τ : xS} {r n : Nat} {β : Nat → Int} {D : Nat → Nat → Int} {S m p s : Nat} {x : Int}
/-- the class's table of routes -/
def RT (σ : xS) (r : Nat) (D : Nat → Nat → Int) (S : Nat) : Prop := ∀ m p, m < 2 ^ S → p < 8 → σ (r + 14) (8 * m + p) = rsF D S m p
def RD (σ : xS) (r : Nat) (β : Nat → Int) : Prop := RM σ r (dsF β) ∧ RT σ r (dsF β) (β 6).toNat
theorem idx_eq (m p : Nat) : ((m : Int) * 8 + (p : Int)).toNat = 8 * m + p := by omega
theorem c_by (hm : m < 128) (hs : s < 7) (hp : p < 8) (t : m.testBit s = true) (h1 : τ (r + 6 + p) s = D p s) (h2 : τ (r + 14) (8 * (m - 2 ^ s) + s) = rsF D S (m - 2 ^ s) s) : m_X9_by r p s m τ = some (byF D S m p s) := by
  have hl := sub_le hm hs t
  unfold m_X9_by byF
  rw [sub_zand hm hs t]
  generalize m - 2 ^ s = M at hl h2 ⊢
  have hM : M < 128 := by omega
  rw [zI_of (n := (p : Int)) (by omega) (by omega), zI_of (n := (s : Int)) (by omega) (by omega), zI_of (n := (M : Int) * 8 + (s : Int)) (by omega) (by omega), xck_of (by omega) (by omega), xck_of (by omega) (by omega), xck_of (by omega) (by omega), tn_cast, tn_cast, idx_eq, h1, h2]
theorem byF_bd (hS : S ≤ 7) (hD : Fb 8 D) (hm : m < 2 ^ S) (hp : p < 8) (t : m.testBit s = true) : 0 ≤ byF D S m p s ∧ byF D S m p s ≤ 8000000 := by
  have h128 := pow_le7 hS hm
  have hs := bit_lt hm t
  have hl := sub_le h128 (by omega) t
  have h1 := rsF_bd7 (p := s) hS hD (m := m - 2 ^ s) (by omega) (by omega)
  have h2 := (hD p hp).2 s (by omega)
  unfold byF
  omega
theorem c_measure (h : RM σ r D) (hD : Fb 8 D) (hS : S ≤ 7) (hn : 4000000 ≤ n) : OK (m_X9_measureRoutes n r S σ) (fun τ => RT τ r D S ∧ ∀ k j, k ≠ r + 14 → τ k j = σ k j) := by
  have h2S := pow7 hS
  unfold m_X9_measureRoutes
  refine loop_for (2 ^ S) (fun i (t : Int × xS) => t.1 = (i : Int) ∧ (∀ m p, m < i → p < 8 → t.2 (r + 14) (8 * m + p) = rsF D S m p) ∧ (∀ k j, k ≠ r + 14 → t.2 k j = σ k j)) ?_ ?_ (by omega) ⟨rfl, fun m p hm => absurd hm (Nat.not_lt_zero _), fun _ _ _ => rfl⟩
  · rintro m ⟨a, τ⟩ hm ⟨h1, h2, h3⟩ rec hrec
    try dsimp only at h1 h2 h3 hrec ⊢
    subst h1
    have hm128 : m < 128 := by omega
    rw [shl_of (show S < 8 by omega), zI_of (n := ((2 ^ S : Nat) : Int)) (by omega) (by omega), zI_of (n := (m : Int)) (by omega) (by omega), if_neg (by omega)]
    refine loop_for 8 (fun j (t : Int × xS) => t.1 = (j : Int) ∧ (∀ m' p, m' < m ∨ (m' = m ∧ p < j) → p < 8 → t.2 (r + 14) (8 * m' + p) = rsF D S m' p) ∧ (∀ k j, k ≠ r + 14 → t.2 k j = σ k j)) ?_ ?_ (by omega) ⟨rfl, fun m' p h hp => h2 m' p (by omega) hp, h3⟩
    · rintro p ⟨a, τ1⟩ hp ⟨g1, g2, g3⟩ rec1 hrec1
      try dsimp only at g1 g2 g3 hrec1 ⊢
      subst g1
      rw [zI_of (n := (p : Int)) (by omega) (by omega), if_neg (by omega), xlet_eq]
      refine loop_for S (fun k (t : Int × Int) => t.2 = (k : Int) ∧ t.1 = minTo (if (m : Int) = 0 then 0 else 8000000) k (fun s => if m.testBit s = true then byF D S m p s else 8000000)) ?_ ?_ (by omega) ⟨rfl, rfl⟩
      · rintro s ⟨b, a⟩ hs ⟨f1, f2⟩ rec2 hrec2
        try dsimp only at f1 f2 hrec2 ⊢
        subst f1
        have hb : 0 ≤ b ∧ b ≤ 8000000 := by
          rw [f2]
          refine ⟨minTo_ge (by split <;> omega) _ (fun i hi => ?_), Int.le_trans (minTo_le _) (by split <;> omega)⟩
          try dsimp only
          split
          · rename_i t
            exact (byF_bd hS hD hm hp t).1
          · omega
        rw [zI_of (n := (S : Int)) (by omega) (by omega), zI_of (n := (s : Int)) (by omega) (by omega), if_neg (by omega), xj_eq, bit_of hm128 (by omega)]
        by_cases t : m.testBit s = true
        · have hl := sub_le hm128 (by omega) t
          rw [if_pos t, if_neg (by omega), c_by (D := D) (S := S) hm128 (by omega) hp t (by rw [g3 _ _ (by omega)]; exact h p s hp (by omega)) (g2 _ s (by omega) (by omega)), bind_some']
          simp only [xlet_eq]
          have hbb := byF_bd hS hD hm hp t
          refine hrec2 _ ⟨by (try dsimp only); omega, ?_⟩
          try dsimp only
          rw [minTo, if_pos t, ← f2, zmin_of (by omega) (by omega) (by omega) (by omega)]
        · rw [if_neg t, if_pos rfl]
          simp only [xlet_eq]
          refine hrec2 _ ⟨by (try dsimp only); omega, ?_⟩
          try dsimp only
          rw [minTo, if_neg t, ← f2]
          omega
      · rintro ⟨b, a⟩ ⟨f1, f2⟩ rec2
        try dsimp only at f1 f2 ⊢
        subst f1
        have hv : b = rsF D S m p := by
          rw [f2, rsF_eq hS hm128]
          by_cases c : m = 0
          · rw [if_pos c, if_pos (by omega)]
            refine Int.le_antisymm (minTo_le _) (minTo_ge (by omega) _ (fun i hi => ?_))
            subst c
            try dsimp only
            rw [Nat.zero_testBit, if_neg (by decide)]
            omega
          · rw [if_neg c, if_neg (by omega)]
        rw [zI_of (n := (S : Int)) (by omega) (by omega), if_pos (by omega), zI_of (n := (m : Int) * 8 + (p : Int)) (by omega) (by omega), xck_of (by omega) (by omega), xlet_eq, xlet_eq, idx_eq]
        refine hrec1 _ ⟨by (try dsimp only); omega, fun m' p' h' hp' => ?_, fun k j hk => ?_⟩
        · try dsimp only
          by_cases c : m' = m ∧ p' = p
          · rw [c.1, c.2, xput_eq, hv]
          · rw [xput_ne (by omega)]
            exact g2 m' p' (by omega) hp'
        · try dsimp only
          rw [xput_ne (by omega)]
          exact g3 k j hk
    · rintro ⟨a, τ1⟩ ⟨g1, g2, g3⟩ rec1
      try dsimp only at g1 g2 g3 ⊢
      subst g1
      rw [zI_of (n := ((8 : Nat) : Int)) (by omega) (by omega), if_pos (by omega), xlet_eq]
      exact hrec _ ⟨by (try dsimp only); omega, fun m' p hm' hp => g2 m' p (by omega) hp, g3⟩
  · rintro ⟨a, τ⟩ ⟨h1, h2, h3⟩ rec
    try dsimp only at h1 h2 h3 ⊢
    subst h1
    rw [shl_of (show S < 8 by omega), zI_of (n := ((2 ^ S : Nat) : Int)) (by omega) (by omega), if_pos (by omega)]
    exact OK_some ⟨h2, h3⟩
/-- the streets as the class has them, one left out (x; -1: none) -/
def SR (σ : xS) (r : Nat) (β : Nat → Int) (x : Int) : Prop := σ r 4 = β 7 ∧ ∀ s : Nat, (s : Int) < β 7 → σ (r + 1) s = plC (stF β s 0) ∧ σ (r + 2) s = plC (stF β s 1) ∧ σ (r + 3) s = stF β s 2 ∧ (σ (r + 4) s = 0 ∨ σ (r + 4) s = 1) ∧ (stF β s 3 = 1 ↔ (σ (r + 4) s = 1 ∨ (s : Int) = x))
theorem c_explore (hV : V β) (hR : SR σ r β x) (hx : -1 ≤ x ∧ x ≤ 20) (hn : 4000000 ≤ n) : OK (m_X9_explore n r (β 6) x σ) (fun τ => RD τ r β ∧ ∀ k j, (k < r + 6 ∨ r + 14 < k) → τ k j = σ k j) := by
  have v6 := hV.2.2.2.2.2.2.1
  have v7 := hV.2.2.2.2.2.2.2.1
  have vs := hV.2.2.2.2.2.2.2.2.2.2.2.2.1
  obtain ⟨s4, hs⟩ := hR
  unfold m_X9_explore
  refine loop_for 8 (fun i (t : Int × xS) => t.1 = (i : Int) ∧ (∀ p q, p < i → q < 8 → t.2 (r + 6 + p) q = bsF β 0 p q) ∧ xm r σ t.2) ?_ ?_ (by omega) ⟨rfl, fun p q hp => absurd hp (Nat.not_lt_zero _), fun _ _ _ => rfl⟩
  · rintro i ⟨a, τ⟩ hi ⟨h1, h2, h3⟩ rec hrec
    try dsimp only at h1 h2 h3 hrec ⊢
    subst h1
    simp (disch := omega) only [zI_of (n := (i : Int)), if_neg, xck_of, tn_cast, c_fill hn (show 8 ≤ 2000 by decide), bind_some', xlet_eq]
    refine hrec _ ⟨by (try dsimp only); omega, fun p q hp hq => ?_, fun k j hk => ?_⟩
    · try dsimp only
      by_cases c : p = i
      · subst c
        by_cases c2 : q = p
        · subst c2
          rw [xput_eq]
          exact (if_pos rfl).symm
        · rw [xput_ne (by omega), if_pos (by omega)]
          exact (if_neg (by omega)).symm
      · rw [xput_ne (by omega), if_neg (by omega)]
        exact h2 p q (by omega) hq
    · try dsimp only
      rw [xput_ne (by omega), if_neg (by omega)]
      exact h3 k j hk
  · rintro ⟨a, τ⟩ ⟨h1, h2, h3⟩ rec
    try dsimp only at h1 h2 h3 ⊢
    subst h1
    rw [zI_of (n := ((8 : Nat) : Int)) (by omega) (by omega), if_pos (by omega)]
    refine loop_for (β 7).toNat (fun i (t : Int × xS) => t.1 = (i : Int) ∧ RM t.2 r (bsF β i) ∧ xm r σ t.2) ?_ ?_ (by omega) ⟨rfl, h2, h3⟩
    · rintro i ⟨a, τ1⟩ hi ⟨g1, g2, g3⟩ rec1 hrec1
      try dsimp only at g1 g2 g3 hrec1 ⊢
      subst g1
      have hi' : (i : Int) < β 7 := by omega
      obtain ⟨q1, q2, q3, q4, q5⟩ := hs i hi'
      have vsi := vs i hi'
      have hB := bsF_b hV i (by omega)
      rw [plC_N vsi.1.1] at q1
      rw [plC_N vsi.2.1.1] at q2
      have l1 := plN_lt (a := (stF β i 0).toNat) (by omega)
      have l2 := plN_lt (a := (stF β i 1).toNat) (by omega)
      have hne : plN (stF β i 0).toNat ≠ plN (stF β i 1).toNat := fun h => by
        have := plN_inj (by omega) (by omega) h
        omega
      have hbs : bsF β (i + 1) = if stF β i 3 = 1 then bsF β i else fun p q => if (p = plN (stF β i 0).toNat ∧ q = plN (stF β i 1).toNat) ∨ (p = plN (stF β i 1).toNat ∧ q = plN (stF β i 0).toNat) then min (bsF β i (plN (stF β i 0).toNat) (plN (stF β i 1).toNat)) (stF β i 2) else bsF β i p q := rfl
      generalize plN (stF β i 0).toNat = A at q1 l1 hne hbs
      generalize plN (stF β i 1).toNat = B at q2 l2 hne hbs
      have e4 : τ1 r 4 = β 7 := by rw [g3 _ _ (by omega)]; exact s4
      have e1 : τ1 (r + 1) i = (A : Int) := by rw [g3 _ _ (by omega)]; exact q1
      have e2 : τ1 (r + 2) i = (B : Int) := by rw [g3 _ _ (by omega)]; exact q2
      have e3 : τ1 (r + 3) i = stF β i 2 := by rw [g3 _ _ (by omega)]; exact q3
      have e5 : τ1 (r + 4) i = σ (r + 4) i := g3 _ _ (by omega)
      have e6 : τ1 (r + 6 + A) B = bsF β i A B := g2 A B l1 l2
      have b6 := (hB A l1).2 B l2
      simp only [e4]
      rw [zI_of (n := β 7) (by omega) (by omega), zI_of (n := (i : Int)) (by omega) (by omega), if_neg (by omega), xck_of (by omega) (by omega), xj_eq, tn_cast]
      simp only [e5]
      have skip : stF β i 3 = 1 → OK (xlet ((i : Int) + 1) fun v14 => rec1 (v14, τ1)) (fun τ => RD τ r β ∧ ∀ k j, (k < r + 6 ∨ r + 14 < k) → τ k j = σ k j) := fun hc => by
        rw [xlet_eq]
        refine hrec1 _ ⟨by (try dsimp only); omega, ?_, g3⟩
        rw [hbs, if_pos hc]
        exact g2
      rcases q4 with z | z
      · rw [z, zI_of (n := 0) (by omega) (by omega), if_pos rfl]
        by_cases c : (i : Int) = x
        · rw [zI_of (n := x) (by omega) (by omega), if_pos c]
          exact skip (q5.mpr (Or.inr c))
        · have hc : ¬ stF β i 3 = 1 := fun h => by
            rcases q5.mp h with y | y
            · omega
            · exact c y
          rw [zI_of (n := x) (by omega) (by omega), if_neg c]
          have f1 : ∀ v, (xput τ1 (r + 6 + A) B v) (r + 1) i = (A : Int) := fun v => by rw [xput_ne (by omega)]; exact e1
          have f2 : ∀ v, (xput τ1 (r + 6 + A) B v) (r + 2) i = (B : Int) := fun v => by rw [xput_ne (by omega)]; exact e2
          simp (disch := omega) only [zI_of (n := (A : Int)), zI_of (n := (B : Int)), xck_of, tn_cast, xlet_eq, e1, e2, e3, e6, f1, f2, zmin_of]
          refine hrec1 _ ⟨by (try dsimp only); omega, ?_, fun k j hk => ?_⟩
          · rw [hbs, if_neg hc]
            intro p q hp hq
            try dsimp only
            by_cases c1 : p = B ∧ q = A
            · rw [c1.1, c1.2, xput_eq, if_pos (by omega)]
              omega
            · by_cases c2 : p = A ∧ q = B
              · rw [c2.1, c2.2, xput_ne (by omega), xput_eq, if_pos (by omega)]
                omega
              · rw [xput_ne (by omega), xput_ne (by omega), if_neg (by omega)]
                exact g2 p q hp hq
          · try dsimp only
            rw [xput_ne (by omega), xput_ne (by omega)]
            exact g3 k j hk
      · rw [z, zI_of (n := 1) (by omega) (by omega), if_neg (by omega)]
        exact skip (q5.mpr (Or.inl z))
    · rintro ⟨a, τ1⟩ ⟨g1, g2, g3⟩ rec1
      try dsimp only at g1 g2 g3 ⊢
      subst g1
      have e4 : τ1 r 4 = β 7 := by rw [g3 _ _ (by omega)]; exact s4
      simp only [e4]
      rw [zI_of (n := β 7) (by omega) (by omega), zI_of (n := (((β 7).toNat : Nat) : Int)) (by omega) (by omega), if_pos (by omega)]
      have hB := bsF_b hV (β 7).toNat (Nat.le_refl _)
      refine OK_bind (c_join g2 hB hn) (fun τ2 k2 => ?_)
      obtain ⟨k3, k4⟩ := k2
      have hD := dsF_b hV
      rw [show β 6 = (((β 6).toNat : Nat) : Int) by omega]
      refine OK_bind (c_measure (S := (β 6).toNat) k3 hD (by omega) hn) (fun τ3 k5 => ?_)
      obtain ⟨k6, k7⟩ := k5
      refine OK_some ⟨⟨fun p q hp hq => ?_, k6⟩, fun k j hk => ?_⟩
      · rw [k7 _ _ (by omega)]
        exact k3 p q hp hq
      · rw [k7 _ _ (by omega), k4 _ _ (by omega)]
        exact g3 k j (by omega)
end RO4
