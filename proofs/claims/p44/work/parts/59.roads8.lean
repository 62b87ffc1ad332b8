/-! questions of both: distance, routeMinutes, routeStop -/
section RO8
theorem mask_tab : ∀ S : Fin 8, BitVec.ofInt 32 (zxor (((2 ^ S.val : Nat) : Int) - 1) (-1)) = ~~~(BitVec.ofNat 32 (2 ^ S.val - 1)) ∧ zlshl 1 (S.val : Int) = ((2 ^ S.val : Nat) : Int) := by decide +kernel
theorem bc_tab : ∀ m : Fin 128, m_J6_bitCount_0f7a4 (m.val : Int) = some (bcN m.val : Int) := by decide +kernel
theorem mask_bv (a : BitVec 32) {S : Nat} (hS : S ≤ 7) : (a &&& ~~~(BitVec.ofNat 32 (2 ^ S - 1))) = 0#32 ↔ a.toNat < 2 ^ S := by
  constructor
  · intro h
    refine Nat.lt_pow_two_of_testBit _ fun i hi => ?_
    rw [BitVec.testBit_toNat]
    by_cases c : i < 32
    · have h2 : (a &&& ~~~(BitVec.ofNat 32 (2 ^ S - 1))).getLsbD i = (0#32).getLsbD i := by rw [h]
      rw [BitVec.getLsbD_and, BitVec.getLsbD_not, BitVec.getLsbD_ofNat, Nat.testBit_two_pow_sub_one] at h2
      simpa [c, show ¬ i < S by omega] using h2
    · exact BitVec.getLsbD_of_ge a i (by omega)
  · intro h
    refine BitVec.eq_of_getLsbD_eq fun i hi => ?_
    rw [BitVec.getLsbD_and, BitVec.getLsbD_not, BitVec.getLsbD_ofNat, Nat.testBit_two_pow_sub_one]
    by_cases c : i < S
    · simp [c, hi]
    · have h2 : a.getLsbD i = false := by
        rw [← BitVec.testBit_toNat]
        exact Nat.testBit_lt_two_pow (Nat.lt_of_lt_of_le h (Nat.pow_le_pow_right (by omega) (by omega)))
      simp [h2]
theorem toInt_z (a : BitVec 32) : a.toInt = 0 ↔ a = 0#32 := by
  constructor
  · intro h
    refine BitVec.toInt_inj.mp ?_
    rw [h, BitVec.toInt_zero]
  · intro h
    rw [h, BitVec.toInt_zero]
theorem mask_iff {p : Int} {S : Nat} (hS : S ≤ 7) (h1 : -2147483648 ≤ p) (h2 : p < 2147483648) : zand p (zxor (((2 ^ S : Nat) : Int) - 1) (-1)) = 0 ↔ 0 ≤ p ∧ p < ((2 ^ S : Nat) : Int) := by
  have e : zand p (zxor (((2 ^ S : Nat) : Int) - 1) (-1)) = (BitVec.ofInt 32 p &&& ~~~(BitVec.ofNat 32 (2 ^ S - 1))).toInt := by
    rw [← (mask_tab ⟨S, by omega⟩).1]
    rfl
  have hp := (pow7 hS).1
  have hn : (BitVec.ofInt 32 p).toNat = (p % 4294967296).toNat := by rw [BitVec.toNat_ofInt]; rfl
  rw [e, toInt_z, mask_bv _ hS, hn]
  omega
variable {σ τ : xS} {k r n : Nat} {β : Nat → Int} {D : Nat → Nat → Int} {S m p s : Nat} {x e : Int}
/-- the minutes of a route that was asked for -/
def rouF (β : Nat → Int) (p : Int) : Int := if 0 ≤ p ∧ p < ((2 ^ (β 6).toNat : Nat) : Int) then (if rsF (dsF β) (β 6).toNat p.toNat 7 < 1000000 then rsF (dsF β) (β 6).toNat p.toNat 7 else -1) else -1
theorem c_routeMinutes (hB : Bk σ (bkA (σ 0 3)) β e) (hV : V β) (hR : RD σ (bkA (σ 0 3) + 39) β) {p : Int} (h1 : -2147483648 ≤ p) (h2 : p < 2147483648) : m_X12_routeMinutes p σ = some (rouF β p) := by
  have v6 := hV.2.2.2.2.2.2.1
  have b6 := hB.2.2.2.2.2.2.1
  have hD := dsF_b hV
  obtain ⟨S, hS⟩ : ∃ S : Nat, β 6 = (S : Int) := ⟨(β 6).toNat, by omega⟩
  have h2S := pow7 (i := S) (by omega)
  have hRT := hR.2
  have eS : (β 6).toNat = S := by omega
  rw [eS] at hRT
  unfold m_X12_routeMinutes m_X1_allShops rouF
  rw [b6, eS, hS, shl_of (by omega)]
  by_cases c : 0 ≤ p ∧ p < ((2 ^ S : Nat) : Int)
  · obtain ⟨m, rfl⟩ : ∃ m : Nat, p = (m : Int) := ⟨p.toNat, by omega⟩
    have hm : m < 2 ^ S := by omega
    have hb := rsF_bd7 (D := dsF β) (S := S) (m := m) (p := 7) (by omega) hD hm (by omega)
    have hr := c_restOf (p := 7) hRT (by omega) hm (by omega)
    rw [if_pos c, (mask_iff (by omega) h1 h2).mpr c, zI_of (by omega) (by omega), if_pos rfl, tn_cast]
    rw [show ((7 : Nat) : Int) = 7 from rfl] at hr
    rw [hr, bind_some', zI_of (by omega) (by omega), xlet_eq]
  · rw [if_neg c, if_neg]
    intro h
    refine c ((mask_iff (by omega) h1 h2).mp ?_)
    rw [← h]
    refine (zI_of ?_ ?_).symm
    · exact Int32.le_toInt _
    · exact Int32.toInt_lt _
end RO8
