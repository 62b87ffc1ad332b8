/-! the class's roads: the ways -/
section RO3
variable {σ : xS} {r n : Nat} {β : Nat → Int} {D : Nat → Nat → Int}
/-- the class's matrix -/
def RM (σ : xS) (r : Nat) (D : Nat → Nat → Int) : Prop := ∀ p q, p < 8 → q < 8 → σ (r + 6 + p) q = D p q
/-- only the matrix changes -/
def xm (r : Nat) (σ σ' : xS) : Prop := ∀ k j, (k < r + 6 ∨ r + 14 ≤ k) → σ' k j = σ k j
theorem c_joinInner {m j : Nat} (hD : Fb 8 D) (hm : m < 8) (hj : j < 8) : D j m = flS D m j m ∧ D m j = flS D m m j ∧ (0 ≤ D j m ∧ D j m ≤ 1000000) ∧ (0 ≤ D m j ∧ D m j ≤ 1000000) := by
  have h1 := hD m hm
  have h2 := (hD j hj).2 m hm
  have h3 := h1.2 j hj
  unfold flS
  omega
theorem c_join (h : RM σ r D) (hD : Fb 8 D) (hn : 4000000 ≤ n) : OK (m_X9_joinStreets n r σ) (fun τ => RM τ r (flN D 8) ∧ xm r σ τ) := by
  unfold m_X9_joinStreets
  refine loop_for 8 (fun i (t : Int × xS) => t.1 = (i : Int) ∧ RM t.2 r (flN D i) ∧ xm r σ t.2) ?_ ?_ (by omega) ⟨rfl, h, fun _ _ _ => rfl⟩
  · rintro m ⟨a, τ⟩ hm ⟨h1, h2, h3⟩ rec hrec
    try dsimp only at h1 h2 h3 hrec ⊢
    subst h1
    have hE := flN_b hD m (by omega)
    rw [zI_of (n := (m : Int)) (by omega) (by omega), if_neg (by omega)]
    refine loop_for 8 (fun j (t : Int × xS) => t.1 = (j : Int) ∧ (∀ p q, p < 8 → q < 8 → t.2 (r + 6 + p) q = if p < j then flS (flN D m) m p q else flN D m p q) ∧ xm r σ t.2) ?_ ?_ (by omega) ⟨rfl, fun p q hp hq => by rw [if_neg (by omega)]; exact h2 p q hp hq, h3⟩
    · rintro j ⟨a, τ1⟩ hj ⟨g1, g2, g3⟩ rec1 hrec1
      try dsimp only at g1 g2 g3 hrec1 ⊢
      subst g1
      rw [zI_of (n := (j : Int)) (by omega) (by omega), if_neg (by omega)]
      have hst : ∀ p q, p < 8 → q < 8 → τ1 (r + 6 + p) q = if p < j ∨ (p = j ∧ q < 0) then flS (flN D m) m p q else flN D m p q := fun p q hp hq => by
        rw [g2 p q hp hq]
        by_cases c : p < j
        · rw [if_pos c, if_pos (Or.inl c)]
        · rw [if_neg c, if_neg (by omega)]
      refine loop_for 8 (fun k (t : Int × xS) => t.1 = (k : Int) ∧ (∀ p q, p < 8 → q < 8 → t.2 (r + 6 + p) q = if p < j ∨ (p = j ∧ q < k) then flS (flN D m) m p q else flN D m p q) ∧ xm r σ t.2) ?_ ?_ (by omega) ⟨rfl, fun p q hp hq => hst p q hp hq, g3⟩
      · rintro k ⟨a, τ2⟩ hk ⟨f1, f2, f3⟩ rec2 hrec2
        try dsimp only at f1 f2 f3 hrec2 ⊢
        subst f1
        have e1 : τ2 (r + 6 + j) m = flN D m j m := by
          rw [f2 j m hj hm]
          split
          · exact (c_joinInner hE hm hj).1.symm
          · rfl
        have e2 : τ2 (r + 6 + m) k = flN D m m k := by
          rw [f2 m k hm hk]
          split
          · exact (c_joinInner hE hm hk).2.1.symm
          · rfl
        have e3 : τ2 (r + 6 + j) k = flN D m j k := by rw [f2 j k hj hk, if_neg (by omega)]
        have b1 := (c_joinInner hE hm hj).2.2.1
        have b2 := (c_joinInner hE hm hk).2.2.2
        have b3 := (hE j hj).2 k hk
        simp (disch := omega) only [zI_of (n := (k : Int)), if_neg, xck_of, tn_cast, xlet_eq, e1, e2, e3, zmin_of]
        refine hrec2 _ ⟨by (try dsimp only); omega, fun p q hp hq => ?_, fun k' j' hk' => ?_⟩
        · try dsimp only
          by_cases c : p = j ∧ q = k
          · rw [c.1, c.2, xput_eq, if_pos (by omega)]
            rfl
          · rw [xput_ne (by omega), f2 p q hp hq]
            by_cases c2 : p < j ∨ (p = j ∧ q < k)
            · rw [if_pos c2, if_pos (by omega)]
            · rw [if_neg c2, if_neg (by omega)]
        · try dsimp only
          rw [xput_ne (by omega)]
          exact f3 k' j' hk'
      · rintro ⟨a, τ2⟩ ⟨f1, f2, f3⟩ rec2
        try dsimp only at f1 f2 f3 ⊢
        subst f1
        rw [zI_of (n := ((8 : Nat) : Int)) (by omega) (by omega), if_pos (by omega), xlet_eq]
        refine hrec1 _ ⟨by (try dsimp only); omega, fun p q hp hq => ?_, f3⟩
        try dsimp only
        rw [f2 p q hp hq]
        by_cases c : p < j + 1
        · rw [if_pos c, if_pos (by omega)]
        · rw [if_neg c, if_neg (by omega)]
    · rintro ⟨a, τ1⟩ ⟨g1, g2, g3⟩ rec1
      try dsimp only at g1 g2 g3 ⊢
      subst g1
      rw [zI_of (n := ((8 : Nat) : Int)) (by omega) (by omega), if_pos (by omega), xlet_eq]
      refine hrec _ ⟨by (try dsimp only); omega, fun p q hp hq => ?_, g3⟩
      try dsimp only
      rw [g2 p q hp hq, if_pos hp]
      rfl
  · rintro ⟨a, τ⟩ ⟨h1, h2, h3⟩ rec
    try dsimp only at h1 h2 h3 ⊢
    subst h1
    rw [zI_of (n := ((8 : Nat) : Int)) (by omega) (by omega), if_pos (by omega)]
    exact OK_some ⟨h2, h3⟩
end RO3
