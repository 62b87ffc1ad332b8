/-! sets of shops, the shortest routes through them -/
section RO2
theorem sub_tab : ∀ m : Fin 128, ∀ i : Fin 7, m.val.testBit i.val = true → (2 ^ i.val ≤ m.val ∧ zand (m.val : Int) (zxor (zshl 1 (i.val : Int)) (-1)) = ((m.val - 2 ^ i.val : Nat) : Int) ∧ zxor (m.val : Int) (zshl 1 (i.val : Int)) = ((m.val - 2 ^ i.val : Nat) : Int) ∧ ∀ j : Fin 7, (m.val - 2 ^ i.val).testBit j.val = (m.val.testBit j.val && decide (j.val ≠ i.val))) := by decide +kernel
theorem shl_tab : ∀ i : Fin 8, zshl 1 (i.val : Int) = ((2 ^ i.val : Nat) : Int) := by decide +kernel
theorem shl_of {i : Nat} (hi : i < 8) : zshl 1 (i : Int) = ((2 ^ i : Nat) : Int) := shl_tab ⟨i, hi⟩
theorem pow7 {i : Nat} (hi : i ≤ 7) : (2 : Nat) ^ i ≤ 128 ∧ 1 ≤ (2 : Nat) ^ i := by
  have h1 : (2 : Nat) ^ i ≤ 2 ^ 7 := Nat.pow_le_pow_right (by omega) hi
  have h2 : 0 < (2 : Nat) ^ i := Nat.pow_pos (by omega)
  omega
theorem sub_le {m i : Nat} (hm : m < 128) (hi : i < 7) (h : m.testBit i = true) : 2 ^ i ≤ m ∧ m - 2 ^ i < m := by
  have h1 := (sub_tab ⟨m, hm⟩ ⟨i, hi⟩ h).1
  have h2 := pow7 (i := i) (by omega)
  try dsimp only at h1
  omega
theorem sub_zand {m i : Nat} (hm : m < 128) (hi : i < 7) (h : m.testBit i = true) : zand (m : Int) (zxor (zshl 1 (i : Int)) (-1)) = ((m - 2 ^ i : Nat) : Int) := (sub_tab ⟨m, hm⟩ ⟨i, hi⟩ h).2.1
theorem sub_bit {m i j : Nat} (hm : m < 128) (hi : i < 7) (hj : j < 7) (h : m.testBit i = true) : (m - 2 ^ i).testBit j = (m.testBit j && decide (j ≠ i)) := (sub_tab ⟨m, hm⟩ ⟨i, hi⟩ h).2.2.2 ⟨j, hj⟩
/-- how many shops -/
def bcN (m : Nat) : Nat := m % 2 + m / 2 % 2 + m / 4 % 2 + m / 8 % 2 + m / 16 % 2 + m / 32 % 2 + m / 64 % 2
theorem bcN_tab : ∀ m : Fin 128, (bcN m.val = 0 → m.val = 0) ∧ bcN m.val ≤ 7 ∧ ∀ i : Fin 7, m.val.testBit i.val = true → bcN (m.val - 2 ^ i.val) + 1 = bcN m.val := by decide +kernel
theorem bcN_sub {m i : Nat} (hm : m < 128) (hi : i < 7) (h : m.testBit i = true) : bcN (m - 2 ^ i) + 1 = bcN m := (bcN_tab ⟨m, hm⟩).2.2 ⟨i, hi⟩ h
theorem bcN_0 {m : Nat} (hm : m < 128) (h : bcN m = 0) : m = 0 := (bcN_tab ⟨m, hm⟩).1 h
theorem bcN_le {m : Nat} (hm : m < 128) : bcN m ≤ 7 := (bcN_tab ⟨m, hm⟩).2.1
theorem bit_lt {m S : Nat} (h : m < 2 ^ S) {i : Nat} (hi : m.testBit i = true) : i < S := by
  refine Nat.lt_of_not_le fun h2 => ?_
  have h3 := Nat.ge_two_pow_of_testBit hi
  have h4 : (2 : Nat) ^ S ≤ 2 ^ i := Nat.pow_le_pow_right (by omega) h2
  omega
theorem minTo_congr {z : Int} {n : Nat} {f g : Nat → Int} (h : ∀ i, i < n → f i = g i) : minTo z n f = minTo z n g := by
  induction n with
  | zero => rfl
  | succ n ih => rw [minTo, minTo, ih (fun i hi => h i (by omega)), h n (by omega)]
theorem minTo_at {z : Int} {f : Nat → Int} : ∀ n i, i < n → minTo z n f ≤ f i
  | 0, _, h => absurd h (Nat.not_lt_zero _)
  | n + 1, i, h => by
    rw [minTo]
    by_cases e : i = n
    · subst e; omega
    · have := minTo_at (z := z) (f := f) n i (by omega)
      omega
theorem minTo_mem {z : Int} {f : Nat → Int} : ∀ n, minTo z n f = z ∨ ∃ i, i < n ∧ minTo z n f = f i
  | 0 => Or.inl rfl
  | n + 1 => by
    rw [minTo]
    by_cases c : minTo z n f ≤ f n
    · have e : min (minTo z n f) (f n) = minTo z n f := by omega
      rw [e]
      rcases minTo_mem (z := z) (f := f) n with h | ⟨i, hi, h⟩
      · exact Or.inl h
      · exact Or.inr ⟨i, by omega, h⟩
    · exact Or.inr ⟨n, by omega, by omega⟩
/-- the minutes of the best route from a place through a set -/
def rsK (D : Nat → Nat → Int) (S : Nat) : Nat → Nat → Nat → Int
  | 0, _, _ => 0
  | k + 1, m, p => if m = 0 then 0 else minTo 8000000 S (fun s => if m.testBit s = true then D p s + rsK D S k (m - 2 ^ s) s else 8000000)
def rsF (D : Nat → Nat → Int) (S m p : Nat) : Int := rsK D S (m + 1) m p
variable {D : Nat → Nat → Int} {S m p : Nat}
theorem rsK_irr (hS : S ≤ 7) (m : Nat) : m < 128 → ∀ k1 k2 p, m < k1 → m < k2 → rsK D S k1 m p = rsK D S k2 m p := by
  induction m using Nat.strongRecOn with
  | ind m ih =>
    intro hm k1 k2 p h1 h2
    obtain ⟨a, rfl⟩ : ∃ a, k1 = a + 1 := ⟨k1 - 1, by omega⟩
    obtain ⟨b, rfl⟩ : ∃ b, k2 = b + 1 := ⟨k2 - 1, by omega⟩
    rw [rsK, rsK]
    by_cases c : m = 0
    · rw [if_pos c, if_pos c]
    · rw [if_neg c, if_neg c]
      refine minTo_congr fun s hs => ?_
      by_cases t : m.testBit s = true
      · have hl := sub_le hm (by omega) t
        rw [if_pos t, if_pos t, ih _ hl.2 (by omega) a b s (by omega) (by omega)]
      · rw [if_neg t, if_neg t]
theorem rsF_0 : rsF D S 0 p = 0 := rfl
/-- the minutes over a shop that comes first -/
def byF (D : Nat → Nat → Int) (S m p s : Nat) : Int := D p s + rsF D S (m - 2 ^ s) s
theorem rsF_eq (hS : S ≤ 7) (hm : m < 128) : rsF D S m p = if m = 0 then 0 else minTo 8000000 S (fun s => if m.testBit s = true then byF D S m p s else 8000000) := by
  unfold rsF
  rw [rsK]
  by_cases c : m = 0
  · rw [if_pos c, if_pos c]
  · rw [if_neg c, if_neg c]
    refine minTo_congr fun s hs => ?_
    by_cases t : m.testBit s = true
    · have hl := sub_le hm (by omega) t
      rw [if_pos t, if_pos t]
      unfold byF rsF
      rw [rsK_irr hS (m - 2 ^ s) (by omega) m (m - 2 ^ s + 1) s (by omega) (by omega)]
    · rw [if_neg t, if_neg t]
theorem pow_le7 (hS : S ≤ 7) (hm : m < 2 ^ S) : m < 128 := by
  have := (pow7 hS).1
  omega
theorem rsF_bd (hS : S ≤ 7) (hD : Fb 8 D) (m : Nat) : m < 2 ^ S → ∀ p, p < 8 → 0 ≤ rsF D S m p ∧ rsF D S m p ≤ 1000000 * (bcN m : Int) := by
  induction m using Nat.strongRecOn with
  | ind m ih =>
    intro hm p hp
    have h128 := pow_le7 hS hm
    rw [rsF_eq hS h128]
    by_cases c : m = 0
    · rw [if_pos c]; omega
    · rw [if_neg c]
      refine ⟨minTo_ge (by omega) _ (fun s hs => ?_), ?_⟩
      · try dsimp only
        by_cases t : m.testBit s = true
        · have hl := sub_le h128 (by omega) t
          have h1 := (ih _ hl.2 (by omega) s (by omega)).1
          have h2 := (hD p hp).2 s (by omega)
          rw [if_pos t]
          unfold byF
          omega
        · rw [if_neg t]; omega
      · obtain ⟨s, hs⟩ := Nat.exists_testBit_of_ne_zero c
        have hs7 := bit_lt hm hs
        have h := minTo_at (z := 8000000) (f := fun s => if m.testBit s = true then byF D S m p s else 8000000) S s hs7
        try dsimp only at h
        rw [if_pos hs] at h
        have hl := sub_le h128 (by omega) hs
        have h1 := (ih _ hl.2 (by omega) s (by omega)).2
        have h2 := (hD p hp).2 s (by omega)
        have h3 := bcN_sub h128 (by omega) hs
        have e2 : byF D S m p s = D p s + rsF D S (m - 2 ^ s) s := rfl
        omega
theorem rsF_bd7 (hS : S ≤ 7) (hD : Fb 8 D) (hm : m < 2 ^ S) (hp : p < 8) : 0 ≤ rsF D S m p ∧ rsF D S m p ≤ 7000000 := by
  have h := rsF_bd hS hD m hm p hp
  have h2 := bcN_le (pow_le7 hS hm)
  omega
theorem rsF_mem (hS : S ≤ 7) (hD : Fb 8 D) (hm : m < 2 ^ S) (hp : p < 8) (c : m ≠ 0) : ∃ s, s < S ∧ m.testBit s = true ∧ byF D S m p s = rsF D S m p := by
  have hb := rsF_bd7 hS hD hm hp
  have e := rsF_eq (D := D) (p := p) hS (pow_le7 hS hm)
  rw [if_neg c] at e
  rcases minTo_mem (z := 8000000) (f := fun s => if m.testBit s = true then byF D S m p s else 8000000) S with h | ⟨s, hs, h⟩
  · omega
  · try dsimp only at h
    by_cases t : m.testBit s = true
    · rw [if_pos t] at h
      exact ⟨s, hs, t, by omega⟩
    · rw [if_neg t] at h
      omega
/-- the first number that is meant -/
def fsF (P : Nat → Bool) : Nat → Nat → Nat
  | 0, s => s
  | k + 1, s => if P s = true then s else fsF P k (s + 1)
theorem fsF_spec (P : Nat → Bool) : ∀ k s, s ≤ fsF P k s ∧ fsF P k s ≤ s + k ∧ (fsF P k s < s + k → P (fsF P k s) = true) ∧ ∀ i, s ≤ i → i < fsF P k s → P i = false
  | 0, s => ⟨Nat.le_refl _, Nat.le_refl _, fun h => absurd h (Nat.lt_irrefl _), fun i h1 h2 => by have : i < s := h2; omega⟩
  | k + 1, s => by
    rw [fsF]
    by_cases c : P s = true
    · rw [if_pos c]
      exact ⟨Nat.le_refl _, by omega, fun _ => c, fun i h1 h2 => by omega⟩
    · rw [if_neg c]
      obtain ⟨h1, h2, h3, h4⟩ := fsF_spec P k (s + 1)
      refine ⟨by omega, by omega, fun h => h3 (by omega), fun i g1 g2 => ?_⟩
      by_cases e : i = s
      · rw [e]
        cases q : P s
        · rfl
        · exact absurd q c
      · exact h4 i (by omega) g2
/-- the shop that comes next -/
def nxB (D : Nat → Nat → Int) (S m p s : Nat) : Bool := m.testBit s && decide (byF D S m p s = rsF D S m p)
def nxF (D : Nat → Nat → Int) (S m p : Nat) : Nat := fsF (nxB D S m p) 7 0
theorem nxF_spec (hS : S ≤ 7) (hD : Fb 8 D) (hm : m < 2 ^ S) (hp : p < 8) (c : m ≠ 0) : nxF D S m p < S ∧ m.testBit (nxF D S m p) = true ∧ byF D S m p (nxF D S m p) = rsF D S m p ∧ ∀ i, i < nxF D S m p → nxB D S m p i = false := by
  obtain ⟨h1, h2, h3, h4⟩ := fsF_spec (nxB D S m p) 7 0
  obtain ⟨s, s1, s2, s3⟩ := rsF_mem hS hD hm hp c
  have hlt : fsF (nxB D S m p) 7 0 < 0 + 7 := by
    refine Nat.lt_of_not_le fun h => ?_
    have := h4 s (by omega) (by omega)
    simp [nxB, s2, s3] at this
  have hB := h3 hlt
  unfold nxF
  simp only [nxB, Bool.and_eq_true, decide_eq_true_eq] at hB
  exact ⟨bit_lt hm hB.1, hB.1, hB.2, fun i hi => h4 i (by omega) hi⟩
/-- where the route is behind k stops: the place, and what is left -/
def rtN (D : Nat → Nat → Int) (S m : Nat) : Nat → Nat × Nat
  | 0 => (7, m)
  | k + 1 => let q := rtN D S m k; (nxF D S q.2 q.1, q.2 - 2 ^ nxF D S q.2 q.1)
theorem rtN_spec (hS : S ≤ 7) (hD : Fb 8 D) (hm : m < 2 ^ S) : ∀ k, k ≤ bcN m → (rtN D S m k).1 < 8 ∧ (rtN D S m k).2 ≤ m ∧ bcN (rtN D S m k).2 + k = bcN m ∧ (∀ i, i < 7 → (rtN D S m k).2.testBit i = true → m.testBit i = true) ∧ rsF D S (rtN D S m k).2 (rtN D S m k).1 ≤ rsF D S m 7
  | 0, _ => ⟨by show (7 : Nat) < 8; omega, Nat.le_refl _, by show bcN m + 0 = _; omega, fun _ _ h => h, Int.le_refl _⟩
  | k + 1, hk => by
    obtain ⟨h1, h2, h3, h4, h5⟩ := rtN_spec hS hD hm k (by omega)
    have h128 := pow_le7 hS hm
    have hm' : (rtN D S m k).2 < 2 ^ S := by omega
    have c : (rtN D S m k).2 ≠ 0 := fun h => by
      rw [h] at h3
      have : bcN 0 = 0 := rfl
      omega
    obtain ⟨n1, n2, n3, -⟩ := nxF_spec hS hD hm' h1 c
    have hl := sub_le (m := (rtN D S m k).2) (by omega) (by omega) n2
    have hc := bcN_sub (m := (rtN D S m k).2) (by omega) (by omega) n2
    have hd := (hD _ h1).2 (nxF D S (rtN D S m k).2 (rtN D S m k).1) (by omega)
    rw [rtN]
    try dsimp only
    refine ⟨by omega, by omega, by omega, fun i hi t => ?_, ?_⟩
    · rw [sub_bit (by omega) (by omega) hi n2] at t
      simp only [Bool.and_eq_true] at t
      exact h4 i hi t.1
    · unfold byF at n3
      omega
end RO2
