/-! the shortest route, stop by stop: both -/
section RO7
variable {σ τ : xS} {k r n : Nat} {β : Nat → Int} {D : Nat → Nat → Int} {S m p s : Nat} {x : Int}
theorem c_between (h : RM σ r D) (hp : p < 8) (hs : s < 8) : m_X9_between r p s σ = some (D p s) := by
  unfold m_X9_between
  rw [zI_of (n := (p : Int)) (by omega) (by omega), zI_of (n := (s : Int)) (by omega) (by omega), xck_of (by omega) (by omega), xck_of (by omega) (by omega), tn_cast, tn_cast, h p s hp hs]
theorem c_restOf (h : RT σ r D S) (hS : S ≤ 7) (hm : m < 2 ^ S) (hp : p < 8) : m_X9_restOfRoute r p m σ = some (rsF D S m p) := by
  have h128 := pow_le7 hS hm
  unfold m_X9_restOfRoute
  rw [zI_of (n := (m : Int) * 8 + (p : Int)) (by omega) (by omega), xck_of (by omega) (by omega), idx_eq, h m p hm hp]
theorem c_nextStop (hM : RM σ r D) (hT : RT σ r D S) (hS : S ≤ 7) (hD : Fb 8 D) (hm : m < 2 ^ S) (hp : p < 8) (c : m ≠ 0) (hn : 4000000 ≤ n) : m_X9_nextStop n r p m σ = some (nxF D S m p : Int) := by
  have h128 := pow_le7 hS hm
  obtain ⟨n1, n2, n3, n4⟩ := nxF_spec hS hD hm hp c
  have hr := c_restOf hT hS hm hp
  have hrb := rsF_bd7 hS hD hm hp
  unfold m_X9_nextStop
  refine loop_eq (nxF D S m p) (fun i => (i : Int)) rfl ?_ ?_ (by omega)
  · intro i hi rec
    have hN := n4 i hi
    try dsimp only
    rw [zI_of (n := (i : Int)) (by omega) (by omega), if_neg (by omega), xj_eq, bit_of h128 (by omega)]
    by_cases t : m.testBit i = true
    · have hiS := bit_lt hm t
      have hl := sub_le h128 (by omega) t
      have hb := byF_bd hS hD hm hp t
      rw [if_pos t, if_neg (by omega), c_by (D := D) (S := S) h128 (by omega) hp t (hM p i hp (by omega)) (hT _ _ (by omega) (by omega)), bind_some', hr, bind_some', zI_of (n := byF D S m p i) (by omega) (by omega), zI_of (n := rsF D S m p) (by omega) (by omega), if_neg]
      · rfl
      · intro h
        simp [nxB, t, h] at hN
    · rw [if_neg t, if_pos rfl]
      rfl
  · intro rec
    generalize nxF D S m p = N at n1 n2 n3
    have hl := sub_le h128 (by omega) n2
    try dsimp only
    rw [zI_of (n := (N : Int)) (by omega) (by omega), if_neg (by omega), xj_eq, bit_of h128 (by omega), if_pos n2, if_neg (by omega), c_by (D := D) (S := S) h128 (by omega) hp n2 (hM p N hp (by omega)) (hT _ _ (by omega) (by omega)), bind_some', hr, bind_some', n3, if_pos rfl]
/-- the reference's stops -/
def RS (σ : xS) (D : Nat → Nat → Int) (S m : Nat) : Prop := σ 184 42 = (bcN m : Int) ∧ ∀ j, j < bcN m → σ 207 j = ((rtN D S m (j + 1)).1 : Int)
theorem r_routes (hW : WM σ (S + 1) (fun a c => D (plN a) (plN c))) (hT : WT σ D S) (hS : S ≤ 7) (hD : Fb 8 D) (hm : m < 2 ^ S) (hfar : rsF D S m 7 < 1000000) (hn : 4000000 ≤ n) : OK (m_X13_routes n k m σ) (fun τ => RS τ D S m ∧ ∀ a j, a ≠ 207 → ¬ (a = 184 ∧ j = 42) → τ a j = σ a j) := by
  have h128 := pow_le7 hS hm
  have hbc := bcN_le h128
  unfold m_X13_routes
  rw [xlet_eq]
  refine loop_for (bcN m) (fun i (t : Int × Int × xS) => (∃ a : Nat, t.1 = (a : Int) ∧ a < S + 1 ∧ plN a = (rtN D S m i).1) ∧ t.2.1 = ((rtN D S m i).2 : Int) ∧ t.2.2 184 42 = (i : Int) ∧ (∀ j, j < i → t.2.2 207 j = ((rtN D S m (j + 1)).1 : Int)) ∧ (∀ a j, a ≠ 207 → ¬ (a = 184 ∧ j = 42) → t.2.2 a j = σ a j)) ?_ ?_ (by omega) ⟨⟨0, rfl, by omega, rfl⟩, rfl, (xput_eq : (xput σ 184 42 0) 184 42 = 0), fun j hj => absurd hj (Nat.not_lt_zero _), fun a j _ hj => xput_ne hj⟩
  · rintro i ⟨u, v, τ⟩ hi ⟨⟨a, h1, h2, h3⟩, h4, h5, h6, h7⟩ rec hrec
    try dsimp only at h1 h4 h5 h6 h7 hrec ⊢
    subst h1
    obtain ⟨g1, g2, g3, g4, g5⟩ := rtN_spec hS hD hm i (by omega)
    have hnext : rtN D S m (i + 1) = (nxF D S (rtN D S m i).2 (rtN D S m i).1, (rtN D S m i).2 - 2 ^ nxF D S (rtN D S m i).2 (rtN D S m i).1) := rfl
    rw [hnext] at hrec
    have hst : ∀ j, j < i → τ 207 j = ((rtN D S m (j + 1)).1 : Int) := h6
    generalize hpp : (rtN D S m i).1 = P at h3 g1 g5 hrec hnext
    generalize hll : (rtN D S m i).2 = L at h4 g2 g3 g4 g5 hrec hnext
    subst h4
    have hL : L < 2 ^ S := by omega
    have c : L ≠ 0 := fun h => by
      rw [h] at g3
      have : bcN 0 = 0 := rfl
      omega
    obtain ⟨n1, n2, n3, n4⟩ := nxF_spec hS hD hL g1 c
    rw [zI_of (n := (L : Int)) (by omega) (by omega), if_neg (by omega)]
    have least0 : τ 206 (8 * L + a) = rsF D S L P := by
      rw [h7 _ _ (by omega) (by omega), hT L a hL h2, h3]
      omega
    have hLb := rsF_bd7 hS hD hL g1
    have way0 : ∀ s, s < S → τ 205 (8 * a + (s + 1)) = D P s := fun s hs => by
      rw [h7 _ _ (by omega) (by omega), hW a (s + 1) h2 (by omega)]
      show D (plN a) (plN (s + 1)) = _
      rw [plN_s, h3]
    have least1 : ∀ s, L.testBit s = true → τ 206 (8 * (L - 2 ^ s) + (s + 1)) = min 1000000 (rsF D S (L - 2 ^ s) s) := fun s hs => by
      have hsS := bit_lt hL hs
      have hl := sub_le (m := L) (by omega) (by omega) hs
      rw [h7 _ _ (by omega) (by omega), hT (L - 2 ^ s) (s + 1) (by omega) (by omega), plN_s]
    have e0 : ∀ s, L.testBit s = true → (L : Int) - zshl 1 (s : Int) = ((L - 2 ^ s : Nat) : Int) := fun s hs => by
      have hsS := bit_lt hL hs
      have hl := sub_le (m := L) (by omega) (by omega) hs
      rw [shl_of (by omega)]
      omega
    refine loop_for (nxF D S L P) (fun j (t : Int) => t = (j : Int)) ?_ ?_ (by omega) rfl
    · rintro s t hs rfl rec1 hrec1
      have hN := n4 s hs
      try dsimp only
      rw [xj_eq, has_of (by omega) (by omega)]
      by_cases t : L.testBit s = true
      · have hsS := bit_lt hL t
        have hl := sub_le (m := L) (by omega) (by omega) t
        have w1 := way0 s hsS
        have w2 := least1 s t
        have q1 := (hD P g1).2 s (by omega)
        have q2 := rsF_bd7 (p := s) hS hD (m := L - 2 ^ s) (by omega) (by omega)
        have hne : byF D S L P s ≠ rsF D S L P := fun h => by simp [nxB, t, h] at hN
        unfold byF at hne
        rw [if_pos t, if_neg (by omega), e0 s t]
        generalize L - 2 ^ s = M at w2 q2 hl hne ⊢
        rw [zI_of (n := 8 * (a : Int) + (s : Int) + 1) (by omega) (by omega), zI_of (n := 8 * (M : Int) + (s : Int) + 1) (by omega) (by omega), zI_of (n := 8 * (L : Int) + (a : Int)) (by omega) (by omega), xck_of (by omega) (by omega), xck_of (by omega) (by omega), xck_of (by omega) (by omega), ixs, ixs, ix8]
        simp only [w1, w2, least0]
        rw [zI_of (n := rsF D S L P) (by omega) (by omega), zI_of (by omega) (by omega), if_neg (by omega)]
        simp only [xlet_eq]
        exact hrec1 _ (by omega)
      · rw [if_neg t, if_pos rfl]
        simp only [xlet_eq]
        exact hrec1 _ (by omega)
    · rintro t rfl rec1
      generalize nxF D S L P = s at n1 n2 n3 hrec hnext ⊢
      have hl := sub_le (m := L) (by omega) (by omega) n2
      have w1 := way0 s n1
      have w2 := least1 s n2
      have q1 := (hD P g1).2 s (by omega)
      have q2 := rsF_bd7 (p := s) hS hD (m := L - 2 ^ s) (by omega) (by omega)
      have ee := e0 s n2
      have hpl : plN (s + 1) = s := plN_s s
      try dsimp only
      unfold byF at n3
      rw [xj_eq, has_of (by omega) (by omega), if_pos n2, if_neg (by omega), ee]
      generalize L - 2 ^ s = M at w2 q2 hl n3 hrec hnext ⊢
      rw [zI_of (n := 8 * (a : Int) + (s : Int) + 1) (by omega) (by omega), zI_of (n := 8 * (M : Int) + (s : Int) + 1) (by omega) (by omega), zI_of (n := 8 * (L : Int) + (a : Int)) (by omega) (by omega), xck_of (by omega) (by omega), xck_of (by omega) (by omega), xck_of (by omega) (by omega), ixs, ixs, ix8]
      simp only [w1, w2, least0]
      rw [zI_of (n := rsF D S L P) (by omega) (by omega), zI_of (by omega) (by omega), if_pos (by omega)]
      simp only [h5, xlet_eq]
      rw [zI_of (n := (i : Int)) (by omega) (by omega), xck_of (by omega) (by omega), tn_cast]
      refine hrec _ ⟨⟨s + 1, by (try dsimp only); omega, by omega, hpl⟩, rfl, ?_, fun j hj => ?_, fun a' j ha hj => ?_⟩
      · try dsimp only
        rw [xput_eq, xput_ne (by omega), h5]
        omega
      · try dsimp only
        rw [xput_ne (by omega)]
        by_cases c2 : j = i
        · subst c2
          rw [xput_eq, hnext]
        · rw [xput_ne (by omega)]
          exact hst j (by omega)
      · try dsimp only
        rw [xput_ne (by omega), xput_ne (by omega)]
        exact h7 a' j ha hj
  · rintro ⟨u, v, τ⟩ ⟨h1, h4, h5, h6, h7⟩ rec
    try dsimp only at h4 h5 h6 h7 ⊢
    obtain ⟨g1, g2, g3, g4, g5⟩ := rtN_spec hS hD hm (bcN m) (Nat.le_refl _)
    have hz : (rtN D S m (bcN m)).2 = 0 := bcN_0 (by omega) (by omega)
    rw [h4, hz, zI_of (by omega) (by omega), if_pos (show ((0 : Nat) : Int) = 0 from rfl)]
    exact OK_some ⟨⟨h5, h6⟩, h7⟩
end RO7
