/-! which sets can be reached -/
section PL6
variable {D : Nat → Nat → Int} {S m p : Nat} {β : Nat → Int}
/-- at most u, or not at all -/
def Fu (N : Nat) (u : Int) (D : Nat → Nat → Int) : Prop := ∀ a c, a < N → c < N → D a c ≤ u ∨ D a c = 1000000
def Fs (N : Nat) (D : Nat → Nat → Int) : Prop := ∀ a c, a < N → c < N → D a c = D c a
theorem flS_u {N : Nat} {u : Int} (hb : Fb N D) (h : Fu N u D) (hu : 0 ≤ u) {m : Nat} (hm : m < N) : Fu N (2 * u) (flS D m) := fun a c ha hc => by
  have h1 := h a c ha hc
  have h2 := h a m ha hm
  have h3 := h m c hm hc
  have b1 := (hb a ha).2 c hc
  have b2 := (hb a ha).2 m hm
  have b3 := (hb m hm).2 c hc
  unfold flS
  omega
theorem flS_s {N : Nat} (h : Fs N D) {m : Nat} (hm : m < N) : Fs N (flS D m) := fun a c ha hc => by
  have h1 := h a c ha hc
  have h2 := h a m ha hm
  have h3 := h m c hm hc
  unfold flS
  omega
theorem flN_s {N : Nat} (h : Fs N D) : ∀ k, k ≤ N → Fs N (flN D k)
  | 0, _ => h
  | k + 1, hk => flS_s (flN_s h k (by omega)) (by omega)
theorem bsF_s {β : Nat → Int} : ∀ s, Fs 8 (bsF β s)
  | 0 => fun a c _ _ => by
    show (if a = c then (0 : Int) else 1000000) = if c = a then 0 else 1000000
    by_cases e : a = c
    · rw [if_pos e, if_pos e.symm]
    · rw [if_neg e, if_neg (fun z => e z.symm)]
  | s + 1 => fun a c ha hc => by
    have ih := bsF_s (β := β) s a c ha hc
    unfold bsF
    by_cases e : stF β s 3 = 1
    · rw [if_pos e]
      exact ih
    · rw [if_neg e]
      try dsimp only
      by_cases z : (a = plN (stF β s 0).toNat ∧ c = plN (stF β s 1).toNat) ∨ (a = plN (stF β s 1).toNat ∧ c = plN (stF β s 0).toNat)
      · rw [if_pos z, if_pos (by omega)]
      · rw [if_neg z, if_neg (by omega)]
        exact ih
theorem bsF_u {β : Nat → Int} (hV : V β) : ∀ s, s ≤ (β 7).toNat → Fu 8 120 (bsF β s)
  | 0, _ => fun a c _ _ => by
    show (if a = c then (0 : Int) else 1000000) ≤ 120 ∨ (if a = c then (0 : Int) else 1000000) = 1000000
    split <;> omega
  | s + 1, hs => fun a c ha hc => by
    have ih := bsF_u hV s (by omega)
    have vs := hV.2.2.2.2.2.2.2.2.2.2.2.2.1 s (by omega)
    unfold bsF
    by_cases e : stF β s 3 = 1
    · rw [if_pos e]
      exact ih a c ha hc
    · rw [if_neg e]
      have i1 := ih a c ha hc
      try dsimp only
      split
      · left
        omega
      · exact i1
theorem dsF_s (β : Nat → Int) : Fs 8 (dsF β) := flN_s (bsF_s _) 8 (Nat.le_refl _)
theorem dsF_u (hV : V β) : Fu 8 30720 (dsF β) := by
  have hb := bsF_b hV (β 7).toNat (Nat.le_refl _)
  have h0 := bsF_u hV (β 7).toNat (Nat.le_refl _)
  have h1 := flS_u hb h0 (by omega) (m := 0) (by omega)
  have h2 := flS_u (flN_b hb 1 (by omega)) h1 (by omega) (m := 1) (by omega)
  have h3 := flS_u (flN_b hb 2 (by omega)) h2 (by omega) (m := 2) (by omega)
  have h4 := flS_u (flN_b hb 3 (by omega)) h3 (by omega) (m := 3) (by omega)
  have h5 := flS_u (flN_b hb 4 (by omega)) h4 (by omega) (m := 4) (by omega)
  have h6 := flS_u (flN_b hb 5 (by omega)) h5 (by omega) (m := 5) (by omega)
  have h7 := flS_u (flN_b hb 6 (by omega)) h6 (by omega) (m := 6) (by omega)
  have h8 := flS_u (flN_b hb 7 (by omega)) h7 (by omega) (m := 7) (by omega)
  exact h8
/-- no shop of a set is farther than the route through it -/
theorem rsF_far (hS : S ≤ 7) (hD : Fb 8 D) (hT : Ft 8 D) (m : Nat) : m < 2 ^ S → ∀ p s, p < 8 → m.testBit s = true → D p s ≤ rsF D S m p := by
  induction m using Nat.strongRecOn with
  | ind m ih =>
    intro hm p s hp t
    have h128 := pow_le7 hS hm
    have c : m ≠ 0 := fun h => by rw [h, Nat.zero_testBit] at t; exact absurd t (by decide)
    obtain ⟨x, x1, x2, x3⟩ := rsF_mem hS hD hm hp c
    have hl := sub_le h128 (by omega) x2
    have hs := bit_lt hm t
    have hx := rsF_bd7 (p := x) hS hD (m := m - 2 ^ x) (by omega) (by omega)
    unfold byF at x3
    by_cases e : s = x
    · subst e
      omega
    · have h2 : (m - 2 ^ x).testBit s = true := by
        rw [sub_bit h128 (by omega) (by omega) x2, t, decide_eq_true e]
        rfl
      have h3 := ih _ hl.2 (by omega) x s (by omega) h2
      have h4 := hT p x s hp (by omega) (by omega)
      omega
theorem rsF_near (hS : S ≤ 7) (hD : Fb 8 D) (m : Nat) : m < 2 ^ S → ∀ p, p < 8 → (∀ s, m.testBit s = true → D p s ≤ 61440) → (∀ s x, m.testBit s = true → m.testBit x = true → D x s ≤ 61440) → rsF D S m p ≤ 61440 * (bcN m : Int) := by
  induction m using Nat.strongRecOn with
  | ind m ih =>
    intro hm p hp h1 h2
    have h128 := pow_le7 hS hm
    by_cases c : m = 0
    · rw [c, rsF_0]
      omega
    · obtain ⟨s, t⟩ := Nat.exists_testBit_of_ne_zero c
      have hs := bit_lt hm t
      have hl := sub_le h128 (by omega) t
      have hle := rsF_le (D := D) (p := p) hS hm t
      have hc := bcN_sub h128 (by omega) t
      have hsub : ∀ y, (m - 2 ^ s).testBit y = true → m.testBit y = true := fun y hy => by
        have hy7 : y < 7 := by
          have := bit_lt (S := S) (m := m - 2 ^ s) (by omega) hy
          omega
        rw [sub_bit h128 (by omega) hy7 t, Bool.and_eq_true] at hy
        exact hy.1
      have h3 := ih _ hl.2 (by omega) s (by omega) (fun y hy => h2 y s (hsub y hy) t) (fun y x hy hx => h2 y x (hsub y hy) (hsub x hx))
      have h4 := h1 s t
      unfold byF at hle
      omega
theorem reach_iff (hV : V β) (hS : S ≤ 7) (hm : m < 2 ^ S) : rsF (dsF β) S m 7 < 1000000 ↔ ∀ s, m.testBit s = true → dsF β 7 s < 1000000 := by
  have hD := dsF_b hV
  have hT := dsF_t hV
  have hU := dsF_u hV
  constructor
  · intro h s t
    have := rsF_far hS hD hT m hm 7 s (by omega) t
    omega
  · intro h
    have h1 : ∀ s, m.testBit s = true → dsF β 7 s ≤ 30720 := fun s t => by
      have hs := bit_lt hm t
      have := h s t
      rcases hU 7 s (by omega) (by omega) with z | z <;> omega
    have hbc := bcN_le (pow_le7 hS hm)
    have := rsF_near hS hD m hm 7 (by omega) (fun s t => by have := h1 s t; omega) (fun s x ts tx => by
      have hs := bit_lt hm ts
      have hx := bit_lt hm tx
      have a1 := h1 s ts
      have a2 := h1 x tx
      have a3 := hT x 7 s (by omega) (by omega) (by omega)
      have a4 := dsF_s β x 7 (by omega) (by omega)
      omega)
    omega
theorem reach_sub (hV : V β) (hS : S ≤ 7) (hm : m < 2 ^ S) {m' : Nat} (hm' : m' < 2 ^ S) (hs : sbP m' m) (h : rsF (dsF β) S m 7 < 1000000) : rsF (dsF β) S m' 7 < 1000000 := by
  refine (reach_iff hV hS hm').mpr fun s t => (reach_iff hV hS hm).mp h s (hs s ?_ t)
  have := bit_lt hm' t
  omega
end PL6
