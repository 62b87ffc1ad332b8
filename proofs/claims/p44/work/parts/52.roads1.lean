/-! ROADS, mathematically: the shortest ways by Floyd, the shortest routes -/
section RO1
/-- the number of a place in the class -/
def plN (a : Nat) : Nat := if a = 0 then 7 else a - 1
theorem plC_N {p : Int} (h1 : 0 ≤ p) : plC p = (plN p.toNat : Int) := by
  unfold plC plN
  split <;> split <;> omega
def flS (D : Nat → Nat → Int) (m : Nat) : Nat → Nat → Int := fun a c => min (D a c) (D a m + D m c)
def flN (D : Nat → Nat → Int) : Nat → Nat → Nat → Int
  | 0 => D
  | k + 1 => flS (flN D k) k
/-- zero on the diagonal, between 0 and FAR -/
def Fb (N : Nat) (D : Nat → Nat → Int) : Prop := ∀ a, a < N → D a a = 0 ∧ ∀ c, c < N → 0 ≤ D a c ∧ D a c ≤ 1000000
variable {N : Nat} {D T : Nat → Nat → Int}
theorem flS_b (h : Fb N D) {m : Nat} (hm : m < N) : Fb N (flS D m) := by
  intro a ha
  have h1 := h a ha
  have h2 := h m hm
  have h3 := h1.2 m hm
  have h4 := h2.2 a ha
  refine ⟨by unfold flS; omega, fun c hc => ?_⟩
  have h5 := h1.2 c hc
  have h6 := h2.2 c hc
  unfold flS
  omega
theorem flN_b (h : Fb N D) : ∀ k, k ≤ N → Fb N (flN D k)
  | 0, _ => h
  | k + 1, hk => flS_b (flN_b h k (by omega)) (by omega)
/-- the streets, one after another -/
def bsF (β : Nat → Int) : Nat → Nat → Nat → Int
  | 0 => fun p q => if p = q then 0 else 1000000
  | s + 1 => if stF β s 3 = 1 then bsF β s else fun p q => if (p = plN (stF β s 0).toNat ∧ q = plN (stF β s 1).toNat) ∨ (p = plN (stF β s 1).toNat ∧ q = plN (stF β s 0).toNat) then min (bsF β s (plN (stF β s 0).toNat) (plN (stF β s 1).toNat)) (stF β s 2) else bsF β s p q
def dsF (β : Nat → Int) : Nat → Nat → Int := flN (bsF β (β 7).toNat) 8
theorem plN_inj {a b : Nat} (ha : a ≤ 7) (hb : b ≤ 7) (h : plN a = plN b) : a = b := by
  unfold plN at h
  split at h <;> split at h <;> omega
theorem plN_lt {a : Nat} (ha : a ≤ 7) : plN a < 8 := by
  unfold plN
  split <;> omega
theorem bsF_b {β : Nat → Int} (hV : V β) : ∀ s, s ≤ (β 7).toNat → Fb 8 (bsF β s)
  | 0, _ => fun a _ => ⟨if_pos rfl, fun c _ => by show 0 ≤ (if a = c then (0 : Int) else 1000000) ∧ (if a = c then (0 : Int) else 1000000) ≤ 1000000; split <;> omega⟩
  | s + 1, hs => by
    have ih := bsF_b hV s (by omega)
    have vs := hV.2.2.2.2.2.2.2.2.2.2.2.2.1 s (by omega)
    have v6 := hV.2.2.2.2.2.2.1
    have hne : plN (stF β s 0).toNat ≠ plN (stF β s 1).toNat := fun h => by
      have := plN_inj (by omega) (by omega) h
      omega
    have l1 := plN_lt (a := (stF β s 0).toNat) (by omega)
    have l2 := plN_lt (a := (stF β s 1).toNat) (by omega)
    intro a ha
    unfold bsF
    by_cases c3 : stF β s 3 = 1
    · rw [if_pos c3]
      exact ih a ha
    · rw [if_neg c3]
      have hb := (ih _ l1).2 _ l2
      refine ⟨?_, fun c hc => ?_⟩
      · rw [if_neg (by omega)]
        exact (ih a ha).1
      · have := (ih a ha).2 c hc
        split <;> omega
theorem dsF_b {β : Nat → Int} (hV : V β) : Fb 8 (dsF β) := flN_b (bsF_b hV _ (Nat.le_refl _)) 8 (Nat.le_refl _)
end RO1
