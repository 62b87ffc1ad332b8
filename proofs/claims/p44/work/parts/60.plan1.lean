/-! PLANS, mathematically: what a set of shops means for its van -/
section PL1
/-- seven bits -/
def b7 (f : Nat → Bool) : Nat := (if f 0 then 1 else 0) + (if f 1 then 2 else 0) + (if f 2 then 4 else 0) + (if f 3 then 8 else 0) + (if f 4 then 16 else 0) + (if f 5 then 32 else 0) + (if f 6 then 64 else 0)
theorem b7_tab : ∀ c0 c1 c2 c3 c4 c5 c6 : Bool, ((if c0 then 1 else 0) + (if c1 then 2 else 0) + (if c2 then 4 else 0) + (if c3 then 8 else 0) + (if c4 then 16 else 0) + (if c5 then 32 else 0) + (if c6 then 64 else 0) : Nat) < 128 ∧ ((if c0 then 1 else 0) + (if c1 then 2 else 0) + (if c2 then 4 else 0) + (if c3 then 8 else 0) + (if c4 then 16 else 0) + (if c5 then 32 else 0) + (if c6 then 64 else 0) : Nat).testBit 0 = c0 ∧ ((if c0 then 1 else 0) + (if c1 then 2 else 0) + (if c2 then 4 else 0) + (if c3 then 8 else 0) + (if c4 then 16 else 0) + (if c5 then 32 else 0) + (if c6 then 64 else 0) : Nat).testBit 1 = c1 ∧ ((if c0 then 1 else 0) + (if c1 then 2 else 0) + (if c2 then 4 else 0) + (if c3 then 8 else 0) + (if c4 then 16 else 0) + (if c5 then 32 else 0) + (if c6 then 64 else 0) : Nat).testBit 2 = c2 ∧ ((if c0 then 1 else 0) + (if c1 then 2 else 0) + (if c2 then 4 else 0) + (if c3 then 8 else 0) + (if c4 then 16 else 0) + (if c5 then 32 else 0) + (if c6 then 64 else 0) : Nat).testBit 3 = c3 ∧ ((if c0 then 1 else 0) + (if c1 then 2 else 0) + (if c2 then 4 else 0) + (if c3 then 8 else 0) + (if c4 then 16 else 0) + (if c5 then 32 else 0) + (if c6 then 64 else 0) : Nat).testBit 4 = c4 ∧ ((if c0 then 1 else 0) + (if c1 then 2 else 0) + (if c2 then 4 else 0) + (if c3 then 8 else 0) + (if c4 then 16 else 0) + (if c5 then 32 else 0) + (if c6 then 64 else 0) : Nat).testBit 5 = c5 ∧ ((if c0 then 1 else 0) + (if c1 then 2 else 0) + (if c2 then 4 else 0) + (if c3 then 8 else 0) + (if c4 then 16 else 0) + (if c5 then 32 else 0) + (if c6 then 64 else 0) : Nat).testBit 6 = c6 := by decide +kernel
theorem b7_lt (f : Nat → Bool) : b7 f < 128 := (b7_tab (f 0) (f 1) (f 2) (f 3) (f 4) (f 5) (f 6)).1
theorem b7_bit (f : Nat → Bool) {s : Nat} (hs : s < 7) : (b7 f).testBit s = f s := by
  obtain ⟨-, h0, h1, h2, h3, h4, h5, h6⟩ := b7_tab (f 0) (f 1) (f 2) (f 3) (f 4) (f 5) (f 6)
  have : s = 0 ∨ s = 1 ∨ s = 2 ∨ s = 3 ∨ s = 4 ∨ s = 5 ∨ s = 6 := by omega
  rcases this with rfl | rfl | rfl | rfl | rfl | rfl | rfl
  · exact h0
  · exact h1
  · exact h2
  · exact h3
  · exact h4
  · exact h5
  · exact h6
theorem bits_eq {m m' : Nat} (h1 : m < 128) (h2 : m' < 128) (h : ∀ s, s < 7 → m.testBit s = m'.testBit s) : m = m' := by
  refine Nat.eq_of_testBit_eq fun i => ?_
  by_cases c : i < 7
  · exact h i c
  · have hp : (128 : Nat) ≤ 2 ^ i := by
      have : (2 : Nat) ^ 7 ≤ 2 ^ i := Nat.pow_le_pow_right (by omega) (by omega)
      omega
    rw [Nat.testBit_lt_two_pow (by omega), Nat.testBit_lt_two_pow (by omega)]
theorem b7_pow {f : Nat → Bool} {S : Nat} (hS : S ≤ 7) (h : ∀ s, s < 7 → f s = true → s < S) : b7 f < 2 ^ S := by
  refine Nat.lt_pow_two_of_testBit _ fun i hi => ?_
  by_cases c : i < 7
  · rw [b7_bit f c]
    cases hf : f i
    · rfl
    · exact absurd (h i c hf) (by omega)
  · have hl := b7_lt f
    have hp : (2 : Nat) ^ 7 ≤ 2 ^ i := Nat.pow_le_pow_right (by omega) (by omega)
    exact Nat.testBit_lt_two_pow (by omega)
/-- maximum over numbers, from 0 on -/
def maxTo : Nat → (Nat → Int) → Int
  | 0, _ => 0
  | n + 1, f => max (maxTo n f) (f n)
theorem maxTo_ge0 {f : Nat → Int} : ∀ n, 0 ≤ maxTo n f
  | 0 => Int.le_refl _
  | n + 1 => by
    have := maxTo_ge0 (f := f) n
    rw [maxTo]
    omega
theorem maxTo_le {f : Nat → Int} {hi : Int} (h0 : 0 ≤ hi) : ∀ n, (∀ i, i < n → f i ≤ hi) → maxTo n f ≤ hi
  | 0, _ => h0
  | n + 1, h => by
    have h1 := maxTo_le (f := f) h0 n (fun i hi => h i (by omega))
    have h2 := h n (by omega)
    rw [maxTo]
    omega
/-- a term put into a sum, a minimum -/
theorem sumTo_put {f g : Nat → Int} {j : Nat} : ∀ n, j < n → (∀ i, i < n → i ≠ j → g i = f i) → sumTo n g = sumTo n f + (g j - f j)
  | 0, h, _ => absurd h (Nat.not_lt_zero _)
  | n + 1, hj, h => by
    rw [sumTo, sumTo]
    by_cases e : j = n
    · subst e
      rw [sumTo_congr (fun i hi => h i (by omega) (by omega))]
      omega
    · rw [sumTo_put n (by omega) (fun i hi => h i (by omega)), h n (by omega) (by omega)]
      omega
theorem minTo_put {z : Int} {f g : Nat → Int} {j : Nat} : ∀ n, j < n → (∀ i, i < n → i ≠ j → g i = f i) → z ≤ f j → minTo z n g = min (minTo z n f) (g j)
  | 0, h, _, _ => absurd h (Nat.not_lt_zero _)
  | n + 1, hj, h, hz => by
    rw [minTo, minTo]
    by_cases e : j = n
    · subst e
      rw [minTo_congr (fun i hi => h i (by omega) (by omega))]
      have := minTo_le (z := z) (f := f) j
      omega
    · rw [minTo_put n (by omega) (fun i hi => h i (by omega)) hz, h n (by omega) (by omega)]
      omega
variable (D : Nat → Nat → Int) (S : Nat) (rd du ld : Nat → Int)
/-- when the van of a set leaves -/
def dpF (m : Nat) : Int := maxTo 7 (fun s => if m.testBit s = true then rd s else 0)
/-- when it is at a shop, counted from when it leaves; behind k stops -/
def arK (m : Nat) : Nat → Nat → Int
  | 0, _ => 0
  | k + 1, s => if s = (rtN D S m (k + 1)).1 then rsF D S m 7 - rsF D S (rtN D S m (k + 1)).2 (rtN D S m (k + 1)).1 else arK m k s
def arF (m s : Nat) : Int := arK D S m (bcN m) s
def pLo (m : Nat) : Int := sumTo 7 (fun s => if m.testBit s = true then ld s else 0)
def pLa (m : Nat) : Int := sumTo 7 (fun s => if m.testBit s = true ∧ du s < dpF rd m + arF D S m s then 1 else 0)
def pSl (m : Nat) : Int := minTo 1439 7 (fun s => if m.testBit s = true then du s - (dpF rd m + arF D S m s) else 1439)
variable {D S rd du ld} {m : Nat}
/-- a stop that was passed keeps its minute -/
theorem arK_done (hS : S ≤ 7) (hD : Fb 8 D) (hm : m < 2 ^ S) {s : Nat} (hs : s < 7) (hms : m.testBit s = true) : ∀ j k, k ≤ j → j ≤ bcN m → (rtN D S m k).2.testBit s = false → arK D S m j s = arK D S m k s
  | 0, k, h1, _, _ => by
    have : k = 0 := by omega
    subst this
    rfl
  | j + 1, k, h1, h2, h3 => by
    by_cases e : k = j + 1
    · rw [e]
    · rw [← arK_done hS hD hm hs hms j k (by omega) (by omega) h3]
      have hj : (rtN D S m j).2.testBit s = false := by
        cases hc : (rtN D S m j).2.testBit s
        · rfl
        · exfalso
          have key : ∀ i, k + i ≤ bcN m → (rtN D S m (k + i)).2.testBit s = false := fun i => by
            induction i with
            | zero => intro _; exact h3
            | succ i ih =>
              intro hi
              have g := ih (by omega)
              obtain ⟨g1, g2, g3, g4, g5⟩ := rtN_spec hS hD hm (k + i) (by omega)
              have h128 := pow_le7 hS hm
              have c : (rtN D S m (k + i)).2 ≠ 0 := fun h => by
                rw [h] at g3
                have : bcN 0 = 0 := rfl
                omega
              obtain ⟨n1, n2, -, -⟩ := nxF_spec hS hD (m := (rtN D S m (k + i)).2) (by omega) g1 c
              show ((rtN D S m (k + i)).2 - 2 ^ nxF D S (rtN D S m (k + i)).2 (rtN D S m (k + i)).1).testBit s = false
              rw [sub_bit (by omega) (by omega) hs n2, g]
              rfl
          have := key (j - k) (by omega)
          rw [show k + (j - k) = j by omega] at this
          rw [this] at hc
          exact absurd hc (by decide)
      obtain ⟨g1, g2, g3, g4, g5⟩ := rtN_spec hS hD hm j (by omega)
      have c : (rtN D S m j).2 ≠ 0 := fun h => by
        rw [h] at g3
        have : bcN 0 = 0 := rfl
        omega
      obtain ⟨n1, n2, -, -⟩ := nxF_spec hS hD (m := (rtN D S m j).2) (by omega) g1 c
      rw [arK, if_neg]
      intro h
      have : (rtN D S m (j + 1)).1 = nxF D S (rtN D S m j).2 (rtN D S m j).1 := rfl
      rw [← this, ← h, hj] at n2
      exact absurd n2 (by decide)
theorem arK_bd (hS : S ≤ 7) (hD : Fb 8 D) (hm : m < 2 ^ S) (s : Nat) : ∀ k, k ≤ bcN m → 0 ≤ arK D S m k s ∧ arK D S m k s ≤ 7000000
  | 0, _ => by
    show (0 : Int) ≤ 0 ∧ (0 : Int) ≤ 7000000
    omega
  | k + 1, hk => by
    have ih := arK_bd hS hD hm s k (by omega)
    obtain ⟨g1, g2, g3, g4, g5⟩ := rtN_spec hS hD hm (k + 1) hk
    have hb := rsF_bd7 (p := 7) hS hD hm (by omega)
    have hb2 := rsF_bd7 hS hD (m := (rtN D S m (k + 1)).2) (by omega) g1
    rw [arK]
    split <;> omega
end PL1
