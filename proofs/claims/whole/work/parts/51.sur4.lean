/-! questions of both: what is left over, in cents -/
section SUR4
variable {σ : xS} {k q b n : Nat} {β : Nat → Int} {e f t : Int} {N : Nat → Nat → Int} {M : NS}
theorem r_valueOf (hs : σ 185 = β) (hV : V β) {d : Nat} (hd : (d : Int) < β 4) {x : Int} (hx : -1000000 ≤ x ∧ x ≤ 1000000) : m_X13_valueOf d x σ = some (vlF β d x) := by
  have v4 := hV.2.2.2.2.1
  have vd := hV.2.2.2.2.2.2.2.2.2.2.1 d hd
  have h8 := r_dough8 (σ := σ) (k := 185) (i := d) (by omega)
  have h9 := r_dough9 (σ := σ) (k := 185) (i := d) (by omega)
  rw [hs] at h8 h9
  unfold m_X13_valueOf vlF
  rw [h8, h9, bind_some', xj_eq, bind_some', zI_of (n := x) (by omega) (by omega), zI_of (n := dF β d 8) (by omega) (by omega), r_isIn (by omega) (by omega) (by omega) (by omega) (by omega) (by omega)]
  by_cases c : 0 ≤ x ∧ x ≤ dF β d 8
  · have hpb := prod_bd (x := dF β d 9) (y := dF β d 8 - x) (by omega) (by omega)
    rw [if_pos c, if_pos c, if_neg (by omega), xnz_of (by omega), zI_of (n := dF β d 9 * (dF β d 8 - x)) (by omega) (by omega)]
  · rw [if_neg c, if_neg c, if_pos rfl]
theorem vlF_bd (hV : V β) {d : Nat} (hd : (d : Int) < β 4) (x : Int) : 0 ≤ vlF β d x ∧ vlF β d x ≤ 999 := by
  have vd := hV.2.2.2.2.2.2.2.2.2.2.1 d hd
  unfold vlF
  by_cases c : 0 ≤ x ∧ x ≤ dF β d 8
  · have hpb := prod_bd (x := dF β d 9) (y := dF β d 8 - x) (by omega) (by omega)
    rw [if_pos c, Int.tdiv_eq_ediv_of_nonneg hpb.1]
    refine ⟨Int.ediv_nonneg hpb.1 (by omega), ?_⟩
    have h1 : dF β d 9 * (dF β d 8 - x) ≤ 999 * dF β d 8 := Int.mul_le_mul (by omega) (by omega) (by omega) (by omega)
    have h2 := Int.ediv_le_ediv (c := dF β d 8) (by omega) h1
    rw [Int.mul_ediv_cancel _ (by omega)] at h2
    exact h2
  · rw [if_neg c]; omega
theorem svF_bd (hV : V β) (h60 : allF β ≤ 60) {m : Int} {d : Nat} (hd : (d : Int) < β 4) : 0 ≤ svF β (Mf (prm β)).1 m d ∧ svF β (Mf (prm β)).1 m d ≤ 60000 * 999 := by
  have vd := hV.2.2.2.2.2.2.2.2.2.2.1 d hd
  have hlb := loavesF_bd hV (d : Int)
  have hmb := mul_bd (cbF_bd (N := (Mf (prm β)).1) (prm_V hV h60) d (k := (bl β).length) (Nat.le_refl _)) (y := dF β d 7) (by omega)
  have hlf : loF β (Mf (prm β)).1 d = max 0 (cbF β (Mf (prm β)).1 d (bl β).length * dF β d 7 - loavesF β d) := rfl
  have hv := vlF_bd hV hd (m - takF β (Mf (prm β)).1 d (loavesF β d))
  unfold svF
  split
  · omega
  · exact ⟨Int.mul_nonneg (by omega) hv.1, Int.mul_le_mul (by omega) hv.2 hv.1 (by omega)⟩
theorem q_surplusValue (hT : NT σ β e) (hn : 4000000 ≤ n) {p : Int} (h1 : -2147483648 ≤ p) (h2 : p < 2147483648) : SAME σ (m_X12_surplusValue n p σ) (m_X13_surplusValue n p σ) := by
  have hT' := hT
  obtain ⟨hB, hβ, hV, -⟩ := hT
  have v4 := hV.2.2.2.2.1
  unfold m_X12_surplusValue m_X13_surplusValue
  refine SAME_night hT' hn (fun h60 hf hRF hF => ?_)
  have hP := prm_V hV h60
  have hin : m_X13_isIn (zI p) 0 9999 = if 0 ≤ p ∧ p ≤ 9999 then 1 else 0 := by rw [zI_of h1 h2, r_isIn (by omega) (by omega) (by omega) (by omega) (by omega) (by omega)]
  rw [hin]
  by_cases c : 0 ≤ p ∧ p ≤ 9999
  · have hsb := sumTo_bd (n := (β 4).toNat) (f := svF β (Mf (prm β)).1 (p - σ 184 6)) (lo := 0) (hi := 60000 * 999) (fun i hi => svF_bd hV h60 (by omega))
    refine ⟨sumTo (β 4).toNat (svF β (Mf (prm β)).1 (p - σ 184 6)), ?_, by omega, by omega, fun s hG hs h6 => ?_⟩
    · rw [xj_eq, zI_of h1 h2, if_neg (by omega), if_pos c.2]
      refine loop_eq (β 4).toNat (fun i => (sumTo i (svF β (Mf (prm β)).1 (p - σ 184 6)), (i : Int))) rfl ?_ ?_ (by omega)
      · intro i hi rec
        have b4 := hB.2.2.2.2.1
        dsimp only
        rw [sumTo]
        simp (disch := omega) only [zI_of (n := (i : Int)), zI_of (n := β 4), b4, if_neg, c_leftOverCents hB hV h60 hRF.1 hn hf (d := i) (by omega) c, bind_some', xlet_eq]
        rfl
      · intro rec
        have b4 := hB.2.2.2.2.1
        dsimp only
        rw [b4, zI_of (by omega) (by omega), zI_of (by omega) (by omega), if_pos (by omega)]
    · rw [if_pos c, if_neg (by omega)]
      refine loop_eq (β 4).toNat (fun i => (sumTo i (svF β (Mf (prm β)).1 (p - σ 184 6)), (i : Int))) rfl ?_ ?_ (by omega)
      · intro d hd rec
        have hd4 : (d : Int) < β 4 := by omega
        have vd := hV.2.2.2.2.2.2.2.2.2.2.1 d hd4
        have hlb := loavesF_bd hV (d : Int)
        have hmb := mul_bd (cbF_bd (N := (Mf (prm β)).1) hP d (k := (bl β).length) (Nat.le_refl _)) (y := dF β d 7) (by omega)
        have hlo := r_loavesOf (σ := s) (k := 185) (n := n) (d := (d : Int)) (by rw [hs]; exact hV) hn (by omega) (by omega)
        rw [hs] at hlo
        have hbk := r_bakedLoaves (k := 185) (by omega) hs hV hP hG hF hn hd4
        have hlf : loF β (Mf (prm β)).1 d = max 0 (cbF β (Mf (prm β)).1 d (bl β).length * dF β d 7 - loavesF β d) := rfl
        dsimp only
        rw [sumTo, hs]
        simp (disch := omega) only [zI_of (n := (d : Int)), zI_of (n := β 4), xck_of, tn_lit, if_neg, hlo, bind_some']
        refine loop_eq (loF β (Mf (prm β)).1 d).toNat (fun j => (sumTo d (svF β (Mf (prm β)).1 (p - σ 184 6)) + (j : Int) * vlF β d (p - σ 184 6 - takF β (Mf (prm β)).1 d (loavesF β d)), loavesF β d + (j : Int))) (by simp) ?_ ?_ (by omega)
        · intro j hj rec2
          obtain ⟨t1, -, -⟩ := takF_spec hP (Mf_I hV h60) hF (d := d) (l := loavesF β d) (by omega) (by omega) (by omega)
          have hoa := r_outAt (k := 185) (by omega) hs hV h60 hG hn hd4 (l := loavesF β d + (j : Int)) (by omega) (by omega)
          rw [takF_last hV hd4 (by omega) (by omega)] at hoa
          dsimp only
          rw [hbk, bind_some', zI_of (by omega) (by omega), zI_of (by omega) (by omega), if_neg (by omega), hoa, bind_some', h6, r_valueOf hs hV hd4 (by omega), bind_some', xlet_eq, xlet_eq]
          rw [show ((j + 1 : Nat) : Int) = (j : Int) + 1 by omega, Int.add_mul, Int.one_mul, ← Int.add_assoc, ← Int.add_assoc]
        · intro rec2
          dsimp only
          rw [hbk, bind_some', zI_of (by omega) (by omega), zI_of (by omega) (by omega), if_pos (by omega), xlet_eq]
          have ev : ((loF β (Mf (prm β)).1 d).toNat : Int) * vlF β d (p - σ 184 6 - takF β (Mf (prm β)).1 d (loavesF β d)) = svF β (Mf (prm β)).1 (p - σ 184 6) d := by
            rw [show ((loF β (Mf (prm β)).1 d).toNat : Int) = loF β (Mf (prm β)).1 d by omega]
            unfold svF
            by_cases z : loF β (Mf (prm β)).1 d = 0
            · rw [if_pos z, z, Int.zero_mul]
            · rw [if_neg z]
          rw [ev]
          rfl
      · intro rec
        dsimp only
        have e4 : (4 : Int).toNat = 4 := rfl
        rw [hs, xck_of (by omega) (by omega), e4, zI_of (n := β 4) (by omega) (by omega), zI_of (by omega) (by omega), if_pos (by omega)]
  · refine ⟨-1, ?_, by omega, by omega, fun s hG hs h6 => by rw [if_neg c, if_pos rfl]⟩
    rw [xj_eq, zI_of h1 h2]
    by_cases c1 : p < 0
    · rw [if_pos c1]
    · rw [if_neg c1, if_neg (by omega)]
end SUR4
