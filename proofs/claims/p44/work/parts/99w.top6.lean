/-! calls: feeding -/
section TOP6
variable {σ τ s x y y0 : xS} {n m b L : Nat} {β γ δ : Nat → Int} {B : Nat → Nat → Int} {p q : Int} {p1 p2 p3 p4 p5 : Int}
/-- a byte of a word -/
def byW (p : Int) (k : Nat) : Int := zb (zi2b (zshr p (24 - 8 * (k : Int))))
theorem c_append (h1 : σ 0 1 = (L : Int)) (hL : L + 4 ≤ 1600) (hn : 4000000 ≤ n) : OK (m_X12_append n p σ) (fun τ => τ 0 1 = ((L + 4 : Nat) : Int) ∧ (∀ j, τ 1 j = if L ≤ j ∧ j < L + 4 then byW p (j - L) else σ 1 j) ∧ ∀ a j, a ≠ 1 → ¬ (a = 0 ∧ j = 1) → τ a j = σ a j) := by
  unfold m_X12_append
  refine loop_for 4 (fun i (t : Int × xS) => t.1 = 24 - 8 * (i : Int) ∧ t.2 0 1 = ((L + i : Nat) : Int) ∧ (∀ j, t.2 1 j = if L ≤ j ∧ j < L + i then byW p (j - L) else σ 1 j) ∧ ∀ a j, a ≠ 1 → ¬ (a = 0 ∧ j = 1) → t.2 a j = σ a j) ?_ ?_ (by omega) ⟨rfl, h1, fun j => by rw [if_neg (by omega)], fun _ _ _ _ => rfl⟩
  · rintro i t hi ⟨g1, g2, g3, g4⟩ rec hrec
    try dsimp only
    rw [xj_eq, g1, g2, zI_of (n := 24 - 8 * (i : Int)) (by omega) (by omega), if_neg (by omega), zI_of (n := ((L + i : Nat) : Int)) (by omega) (by omega), if_neg (by omega), xck_of (by omega) (by omega), xlet_eq, xlet_eq, xlet_eq, tn_cast]
    refine hrec _ ⟨by show 24 - 8 * (i : Int) + -8 = _; omega, ?_, fun j => ?_, fun a j c1 c2 => ?_⟩
    · dsimp only
      rw [xput_eq, xput_ne (by omega), g2]
      omega
    · dsimp only
      rw [xput_ne (by omega)]
      by_cases c : j = L + i
      · subst c
        rw [xput_eq, if_pos (by omega), show L + i - L = i by omega]
        rfl
      · rw [xput_ne (by omega), g3 j]
        by_cases d : L ≤ j ∧ j < L + i
        · rw [if_pos d, if_pos (by omega)]
        · rw [if_neg d, if_neg (by omega)]
    · dsimp only
      rw [xput_ne (by omega), xput_ne (by omega)]
      exact g4 a j c1 c2
  · rintro t ⟨g1, g2, g3, g4⟩ rec
    try dsimp only
    rw [xj_eq, g1, zI_of (by omega) (by omega), if_pos (by omega)]
    exact OK_some ⟨g2, g3, g4⟩
/-- the bytes of five words -/
def fdW (p1 p2 p3 p4 p5 : Int) (k : Nat) : Int := if k < 4 then p1 else if k < 8 then p2 else if k < 12 then p3 else if k < 16 then p4 else p5
def fdB (p1 p2 p3 p4 p5 : Int) (k : Nat) : Int := byW (fdW p1 p2 p3 p4 p5 k) (k % 4)
theorem fd_at {a k : Nat} {v : Int} (hk : k < 4) (hv : ∀ i, i < 4 → fdW p1 p2 p3 p4 p5 (4 * a + i) = v) : fdB p1 p2 p3 p4 p5 (4 * a + k) = byW v k := by
  unfold fdB
  rw [hv k hk, show (4 * a + k) % 4 = k by omega]
theorem c_appendAt {a : Nat} (h1 : σ 0 1 = ((L + 4 * a : Nat) : Int)) (hL : L + 4 * a + 4 ≤ 1600) (hb : ∀ j, σ 1 j = if L ≤ j ∧ j < L + 4 * a then fdB p1 p2 p3 p4 p5 (j - L) else s 1 j) (hf : ∀ a j, a ≠ 1 → ¬ (a = 0 ∧ j = 1) → σ a j = s a j) (hv : ∀ i, i < 4 → fdW p1 p2 p3 p4 p5 (4 * a + i) = p) (hn : 4000000 ≤ n) : OK (m_X12_append n p σ) (fun τ => τ 0 1 = ((L + 4 * (a + 1) : Nat) : Int) ∧ (∀ j, τ 1 j = if L ≤ j ∧ j < L + 4 * (a + 1) then fdB p1 p2 p3 p4 p5 (j - L) else s 1 j) ∧ ∀ a j, a ≠ 1 → ¬ (a = 0 ∧ j = 1) → τ a j = s a j) := by
  refine OK_mono (c_append h1 hL hn) fun τ h => ?_
  obtain ⟨g1, g2, g3⟩ := h
  refine ⟨by rw [g1]; omega, fun j => ?_, fun a j c1 c2 => by rw [g3 a j c1 c2, hf a j c1 c2]⟩
  rw [g2 j]
  by_cases c : L + 4 * a ≤ j ∧ j < L + 4 * a + 4
  · rw [if_pos c, if_pos (by omega)]
    have := fd_at (p1 := p1) (p2 := p2) (p3 := p3) (p4 := p4) (p5 := p5) (a := a) (k := j - (L + 4 * a)) (by omega) hv
    rw [← this, show 4 * a + (j - (L + 4 * a)) = j - L by omega]
  · rw [if_neg c, hb j]
    by_cases d : L ≤ j ∧ j < L + 4 * a
    · rw [if_pos d, if_pos (by omega)]
    · rw [if_neg d, if_neg (by omega)]
end TOP6
