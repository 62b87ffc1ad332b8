/-! the class's plan and the reference's are one -/
section PLF
variable {β γ : Nat → Int} {e f : Int} {i : Nat} {N : Nat → Nat → Int}
def vcF (γ : Nat → Int) (e : Int) (v : Nat) : Int := if v < 3 then vnF γ v + (if v = 0 then e else 0) else 0
abbrev PX (γ β : Nat → Int) (e f z : Int) : PP := (dsF γ, (β 6).toNat, rdC f β (Mf (prm β)).1 (β 9).toNat, duC z β (β 9).toNat, ldC β (β 9).toNat, vcF γ e, srvF β (Mf (prm β)).1, (β 8).toNat)
theorem srv_lt : srvF β N < 128 := nand_lt (b7_lt _)
theorem srv_bit {s : Nat} (hs : s < 7) (h : (srvF β N).testBit s = true) : (∃ o, o < (β 9).toNat ∧ mtB β s o = true) ∧ ∀ o, o < (β 9).toNat → mtB β s o = true → rdyF β N o ≠ -1 := by
  unfold srvF at h
  rw [nand_bit hs, Bool.and_eq_true] at h
  unfold odF msF at h
  rw [b7_bit _ hs, b7_bit _ hs, exB_iff] at h
  refine ⟨h.1, fun o ho hm hr => ?_⟩
  have h2 : exB (β 9).toNat (fun o => mtB β s o && decide (rdyF β N o = -1)) = true := (exB_iff _).mpr ⟨o, ho, by rw [hm, decide_eq_true hr]; rfl⟩
  rw [h2] at h
  exact absurd h.2 (by decide)
theorem srv_pow (hV : V β) : srvF β N < 2 ^ (β 6).toNat := by
  have v6 := hV.2.2.2.2.2.2.1
  refine Nat.lt_pow_two_of_testBit _ fun s hs => ?_
  by_cases c : s < 7
  · cases h : (srvF β N).testBit s
    · rfl
    · obtain ⟨o, ho, hm⟩ := (srv_bit c h).1
      have := mt_lt hV (o := o) (by omega) hm
      omega
  · have hp : (2 : Nat) ^ 7 ≤ 2 ^ s := Nat.pow_le_pow_right (by omega) (by omega)
    have hl := srv_lt (β := β) (N := N)
    exact Nat.testBit_lt_two_pow (by omega)
theorem PX_V (hA : Ag β γ) (hVg : V γ) (hV : V β) (h60 : allF β ≤ 60) (he : e = 0 ∨ e = 1000000) (hf : 0 ≤ f ∧ f ≤ 1439) {z : Int} (hz : 0 ≤ z ∧ z ≤ 1000000) : PPV (PX γ β e f z) := by
  have v6 := hV.2.2.2.2.2.2.1
  have v8 := hV.2.2.2.2.2.2.2.2.1
  have vv := hVg.2.2.2.2.2.2.2.2.2.2.2.2.2.1
  have g8 : γ 8 = β 8 := hA 8 (by omega) (by omega)
  refine ⟨dsF_b hVg, by show (β 6).toNat ≤ 7; omega, srv_pow hV, by show (β 8).toNat ≤ 3; omega, fun s hs => ⟨?_, ldC_bd hV (Nat.le_refl _) s, ?_⟩, fun v hv => ?_⟩
  · have := duC_bd hV (z := z) hz.1 (Nat.le_refl (β 9).toNat) s
    show 0 ≤ duC z β (β 9).toNat s ∧ duC z β (β 9).toNat s ≤ 1000000
    omega
  · have := rdC_bd hV h60 hf (Nat.le_refl (β 9).toNat) s
    show 0 ≤ rdC f β (Mf (prm β)).1 (β 9).toNat s ∧ rdC f β (Mf (prm β)).1 (β 9).toNat s ≤ 500000
    omega
  · have hv' : v < (β 8).toNat := hv
    have := vv v (by omega)
    show 0 ≤ vcF γ e v ∧ vcF γ e v ≤ 1002000
    unfold vcF
    rw [if_pos (by omega)]
    split <;> omega
end PLF
