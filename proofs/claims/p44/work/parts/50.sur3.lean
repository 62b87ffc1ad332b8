/-! what is left over, in cents -/
section SUR3
variable {σ : xS} {k q b n : Nat} {β : Nat → Int} {e f t : Int} {N : Nat → Nat → Int} {M : NS}
/-- what a loaf is worth x minutes after it was taken out -/
def vlF (β : Nat → Int) (d : Nat) (x : Int) : Int := if 0 ≤ x ∧ x ≤ dF β d 8 then (dF β d 9 * (dF β d 8 - x)).tdiv (dF β d 8) else 0
def loF (β : Nat → Int) (N : Nat → Nat → Int) (d : Nat) : Int := max 0 (cbF β N d (bl β).length * dF β d 7 - loavesF β d)
def svF (β : Nat → Int) (N : Nat → Nat → Int) (m : Int) (d : Nat) : Int := if loF β N d = 0 then 0 else loF β N d * vlF β d (m - takF β N d (loavesF β d))
theorem prod_bd {x y : Int} (hx : 0 ≤ x ∧ x ≤ 999) (hy : 0 ≤ y ∧ y ≤ 1440) : 0 ≤ x * y ∧ x * y ≤ 1438560 := by
  have h1 := Int.mul_nonneg hx.1 hy.1
  have h2 := Int.mul_le_mul hx.2 hy.2 hy.1 (by omega : (0 : Int) ≤ 999)
  omega
theorem c_leftOverCents (hB : Bk σ b β e) (hV : V β) (h60 : allF β ≤ 60) (hR : RN σ q β f (Mf (prm β)).1) (hn : 4000000 ≤ n) (hf : 0 ≤ f ∧ f ≤ 1439) {d : Nat} (hd : (d : Int) < β 4) {p : Int} (hp : 0 ≤ p ∧ p ≤ 9999) : m_X4_leftOverCents n q b d p σ = some (svF β (Mf (prm β)).1 (p - f) d) := by
  have hP := prm_V hV h60
  have hN := Mf_NB hV h60
  have hF := FN_Mf hV h60
  have v4 := hV.2.2.2.2.1
  have vd := hV.2.2.2.2.2.2.2.2.2.2.1 d hd
  have hy := hB.2.2.2.2.2.2.2.2.2.2.1 d hd
  have hlo := c_loavesOf hB hV hn (d := (d : Int)) (by omega) (by omega)
  have hlb := loavesF_bd hV (d : Int)
  have hmb := mul_bd (cbF_bd (N := (Mf (prm β)).1) hP d (k := (bl β).length) (Nat.le_refl _)) (y := dF β d 7) (by omega)
  have hll := c_leftOver hB hV hP hR hN hn hf hd
  have hlf : loF β (Mf (prm β)).1 d = max 0 (cbF β (Mf (prm β)).1 d (bl β).length * dF β d 7 - loavesF β d) := rfl
  rw [← hlf] at hll
  have hlfb : 0 ≤ loF β (Mf (prm β)).1 d ∧ loF β (Mf (prm β)).1 d ≤ 60000 := by omega
  unfold m_X4_leftOverCents svF
  rw [hll, bind_some', zI_of (n := (d : Int)) (by omega) (by omega), xck_of (by omega) (by omega), xlet_eq, tn_cast, hy 8 (by omega), hy 9 (by omega), xj_eq, zI_of (n := loF β (Mf (prm β)).1 d) (by omega) (by omega), zI_of (n := dF β d 8) (by omega) (by omega)]
  by_cases c : loF β (Mf (prm β)).1 d = 0
  · rw [if_pos c, if_pos c]
  · rw [if_neg c, if_neg c, if_pos (by omega), hlo, bind_some', c_takenOut hB hV hP hR hN hn hf hd (by omega), bind_some', xlet_eq]
    obtain ⟨t1, -, -⟩ := takF_spec hP (Mf_I hV h60) hF (d := d) (l := loavesF β d) (by omega) (by omega) (by omega)
    have es : shF f (takF β (Mf (prm β)).1 d (loavesF β d)) = takF β (Mf (prm β)).1 d (loavesF β d) + f := if_neg (by omega)
    rw [es, show p - (takF β (Mf (prm β)).1 d (loavesF β d) + f) = p - f - takF β (Mf (prm β)).1 d (loavesF β d) by omega]
    generalize hx : p - f - takF β (Mf (prm β)).1 d (loavesF β d) = x
    have hxb : -200000 ≤ x ∧ x ≤ 10000 := by omega
    unfold vlF
    simp only [xj_eq]
    rw [zI_of (n := x) (by omega) (by omega)]
    by_cases c1 : x < 0
    · rw [if_pos c1, if_neg (by omega), Int.mul_zero]
    · rw [if_neg c1]
      by_cases c2 : x ≤ dF β d 8
      · have hpb := prod_bd (x := dF β d 9) (y := dF β d 8 - x) (by omega) (by omega)
        rw [if_pos c2, if_pos ⟨by omega, c2⟩, xck_of (by omega) (by omega), xnz_of (by omega), zI_of (n := dF β d 9 * (dF β d 8 - x)) (by omega) (by omega)]
      · rw [if_neg c2, if_neg (by omega), Int.mul_zero]
end SUR3
