/-! the shortest route, stop by stop: both -/
section RO7
variable {σ τ : xS} {k r n : Nat} {β : Nat → Int} {D : Nat → Nat → Int} {S m p s : Nat} {x : Int}
theorem c_between (h : RM σ r D) (hp : p < 8) (hs : s < 8) : m_X9_between r p s σ = some (D p s) := by
  unfold m_X9_between
  rw [zI_of (n := (p : Int)) (by omega) (by omega), zI_of (n := (s : Int)) (by omega) (by omega), xck_of (by omega) (by omega), xck_of (by omega) (by omega), tn_cast, tn_cast, h p s hp hs]
theorem c_restOf (h : RT σ r D S) (hS : S ≤ 7) (hm : m < 2 ^ S) (hp : p < 8) : m_X9_restOfRoute r p m σ = some (rsF D S m p) := by
  have h128 := pow_le7 hS hm
  unfold m_X9_restOfRoute
  rw [zI_of (n := (m : Int) * 8 + (p : Int)) (by omega) (by omega), xck_of (by omega) (by omega), idx_eq, h m p hm hp]
theorem c_nextStop (hM : RM σ r D) (hT : RT σ r D S) (hS : S ≤ 7) (hD : Fb 8 D) (hm : m < 2 ^ S) (hp : p < 8) (c : m ≠ 0) (hn : 4000000 ≤ n) : m_X9_nextStop n r p m σ = some (nxF D S m p : Int) := by
  have h128 := pow_le7 hS hm
  obtain ⟨n1, n2, n3, n4⟩ := nxF_spec hS hD hm hp c
  have hr := c_restOf hT hS hm hp
  have hrb := rsF_bd7 hS hD hm hp
  unfold m_X9_nextStop
  refine loop_eq (nxF D S m p) (fun i => (i : Int)) rfl ?_ ?_ (by omega)
  · intro i hi rec
    have hN := n4 i hi
    try dsimp only
    rw [zI_of (n := (i : Int)) (by omega) (by omega), if_neg (by omega), xj_eq, bit_of h128 (by omega)]
    by_cases t : m.testBit i = true
    · have hiS := bit_lt hm t
      have hl := sub_le h128 (by omega) t
      have hb := byF_bd hS hD hm hp t
      rw [if_pos t, if_neg (by omega), c_by (D := D) (S := S) h128 (by omega) hp t (hM p i hp (by omega)) (hT _ _ (by omega) (by omega)), bind_some', hr, bind_some', zI_of (n := byF D S m p i) (by omega) (by omega), zI_of (n := rsF D S m p) (by omega) (by omega), if_neg]
      · rfl
      · intro h
        simp [nxB, t, h] at hN
    · rw [if_neg t, if_pos rfl]
      rfl
  · intro rec
    generalize nxF D S m p = N at n1 n2 n3
    have hl := sub_le h128 (by omega) n2
    try dsimp only
    rw [zI_of (n := (N : Int)) (by omega) (by omega), if_neg (by omega), xj_eq, bit_of h128 (by omega), if_pos n2, if_neg (by omega), c_by (D := D) (S := S) h128 (by omega) hp n2 (hM p N hp (by omega)) (hT _ _ (by omega) (by omega)), bind_some', hr, bind_some', n3, if_pos rfl]
end RO7
