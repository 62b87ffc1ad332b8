/-! when a loaf is out, where the streets may be others than the night's -/
section OUT5
variable {σ : xS} {k q b n : Nat} {β γ : Nat → Int} {e f t : Int} {N : Nat → Nat → Int} {M : NS}
theorem r_bakedLoaves2 (hV : V β) (hP : PV (prm β)) (hG : RG σ β) (hF : FN (prm β) (Mf (prm β)).1) (hn : 4000000 ≤ n) {d : Nat} (hd : (d : Int) < β 4) (hd7 : m_X13_dough k d 7 σ = some (dF β d 7)) : m_X13_bakedLoaves n k d σ = some (cbF β (Mf (prm β)).1 d (bl β).length * dF β d 7) := by
  have h60 : (bl β).length ≤ 60 := hP.2.2.1
  have h19 := hG.1
  have v4 := hV.2.2.2.2.1
  unfold m_X13_bakedLoaves
  refine loop_eq (bl β).length (fun i => (cbF β (Mf (prm β)).1 d i * dF β d 7, (i : Int))) (by simp [cbF, sumTo]) ?_ ?_ (by omega)
  · intro i hi rec
    obtain ⟨g1, g2, g3, g4⟩ := hG.2.1 i hi
    have hdi := bl_d hV hi
    have hFi := hF i hi
    have hT := hP.1 i hi
    have ep : pE (prm β) (Mf (prm β)).1 i = (Mf (prm β)).1 1 i + pT (prm β) i 2 + pT (prm β) i 3 := rfl
    have h192 : σ 192 i = (((bl β).getD i 0 : Nat) : Int) := g1
    have ecb : cbF β (Mf (prm β)).1 d (i + 1) = cbF β (Mf (prm β)).1 d i + (if bkB β (Mf (prm β)).1 d i = true then 1 else 0) := rfl
    dsimp only
    simp (disch := omega) only [zI_of (n := (i : Int)), zI_of (n := ((bl β).length : Int)), zI_of (n := (d : Int)), zI_of (n := (((bl β).getD i 0 : Nat) : Int)), h19, if_neg, xck_of, tn_cast, xlet_eq, xj_eq, h192, hd7, bind_some', g2]
    rw [ecb]
    by_cases c : (Mf (prm β)).1 3 i = -1
    · rw [if_pos c, zI_of (by omega) (by omega), if_pos rfl]
      by_cases c2 : (bl β).getD i 0 = d
      · have hb : bkB β (Mf (prm β)).1 d i = true := bk_iff.mpr ⟨c2, by omega⟩
        rw [if_pos (by omega), if_pos hb, Int.add_mul, Int.one_mul]
        rfl
      · have hb : bkB β (Mf (prm β)).1 d i = false := bfalse fun z => c2 (bk_iff.mp z).1
        rw [if_neg (by omega), hb]
        simp
    · have hb : bkB β (Mf (prm β)).1 d i = false := bfalse fun z => (bk_iff.mp z).2 (by omega)
      rw [if_neg c, zI_of (by omega) (by omega), if_neg (by omega), hb]
      simp
  · intro rec
    dsimp only
    simp (disch := omega) only [zI_of (n := ((bl β).length : Int)), h19, if_pos]
theorem r_outAt2 (hV : V β) (h60 : allF β ≤ 60) (hG : RG σ β) (hn : 4000000 ≤ n) {d : Nat} (hd : (d : Int) < β 4) (hd7 : m_X13_dough k d 7 σ = some (dF β d 7)) {l : Int} (hl : 0 ≤ l ∧ l ≤ 100000) (hlt : l < cbF β (Mf (prm β)).1 d (bl β).length * dF β d 7) : m_X13_outAt n k d l σ = some (takF β (Mf (prm β)).1 d l) := by
  have hP := prm_V hV h60
  have hF := FN_Mf hV h60
  have hb60 : (bl β).length ≤ 60 := hP.2.2.1
  have h19 := hG.1
  have v4 := hV.2.2.2.2.1
  have vd := hV.2.2.2.2.2.2.2.2.2.2.1 d hd
  have hsz : 0 ≤ dF β d 7 ∧ dF β d 7 ≤ 1000 := by omega
  obtain ⟨t1, t2, t3⟩ := takF_spec hP (Mf_I hV h60) hF (d := d) hl.1 hsz.1 hlt
  have hall : ∀ m, 125000 ≤ m → l < ocF β (Mf (prm β)).1 d m * dF β d 7 := fun m hm => by rw [oc_all hP hF hm]; exact hlt
  generalize takF β (Mf (prm β)).1 d l = T at t1 t2 t3 ⊢
  unfold m_X13_outAt
  rw [xlet_eq]
  suffices h : OK (loopF _ n ((0 : Int), (-1 : Int))) (fun v => v = T) by
    obtain ⟨r, hr, hr2⟩ := h
    rw [← hr2]
    exact hr
  refine loop_ok (fun (s : Int × Int) => s.1 = ocF β (Mf (prm β)).1 d s.2 * dF β d 7 ∧ s.1 ≤ l ∧ -1 ≤ s.2 ∧ s.2 ≤ 125000) (fun s => (200000 - s.2).toNat) ?_ n _ ⟨by dsimp only; rw [oc_neg hP hF, Int.zero_mul], hl.1, by dsimp only; omega, by dsimp only; omega⟩ (by dsimp only; omega)
  rintro ⟨s1, last⟩ ⟨w1, w2, w3, w4⟩ rec hrec
  dsimp only at w1 w2 w3 w4 hrec ⊢
  rw [zI_of (n := last) (by omega) (by omega), if_neg (by omega)]
  refine loop_for (bl β).length (fun i (s : Int × Int × Int) => ∃ best many, s = (best, many, (i : Int)) ∧ ivO β (Mf (prm β)).1 d i last best many) ?_ ?_ (by omega) ⟨1000000, 0, rfl, by omega, by omega, rfl, fun b hb => absurd hb (Nat.not_lt_zero _)⟩
  · rintro i s hi ⟨best, many, rfl, hI⟩ rec2 hrec2
    obtain ⟨g1, g2, g3, g4⟩ := hG.2.1 i hi
    have hdi := bl_d hV hi
    have hFi := hF i hi
    have hT := hP.1 i hi
    have ep : pE (prm β) (Mf (prm β)).1 i = (Mf (prm β)).1 1 i + pT (prm β) i 2 + pT (prm β) i 3 := rfl
    have h192 : σ 192 i = (((bl β).getD i 0 : Nat) : Int) := g1
    have h5 : m_X13_stageOf (i : Int) 5 σ = some (if (Mf (prm β)).1 2 i = -1 then -1 else (Mf (prm β)).1 2 i + pT (prm β) i 5) := by
      have h := r_stageOf (σ := σ) (i := i) (r := 5) (by omega) (by omega)
      rw [g3 5 (by omega)] at h
      exact h
    have hskip : bkB β (Mf (prm β)).1 d i = false ∨ (Mf (prm β)).1 2 i + pT (prm β) i 5 ≤ last → OK (rec2 (best, many, (i : Int) + 1)) (fun v => v = T) := fun h => hrec2 _ ⟨best, many, rfl, ivO_skip hI h⟩
    have hI1 := hI.1
    have hI2 := hI.2.1
    dsimp only
    simp (disch := omega) only [zI_of (n := (i : Int)), zI_of (n := ((bl β).length : Int)), zI_of (n := (d : Int)), zI_of (n := (((bl β).getD i 0 : Nat) : Int)), zI_of (n := best), h19, if_neg, xck_of, tn_cast, xlet_eq, xj_eq, h192, bind_some', g2, h5]
    by_cases c : (Mf (prm β)).1 3 i = -1
    · have hn2 : (Mf (prm β)).1 2 i ≠ -1 := by omega
      rw [if_pos c, zI_of (n := 8) (by omega) (by omega), if_pos rfl, if_neg hn2]
      by_cases c2 : (bl β).getD i 0 = d
      · have hb : bkB β (Mf (prm β)).1 d i = true := bk_iff.mpr ⟨c2, hn2⟩
        rw [if_pos (show (((bl β).getD i 0 : Nat) : Int) = (d : Int) by omega), zI_of (n := (Mf (prm β)).1 2 i + pT (prm β) i 5) (by omega) (by omega)]
        by_cases c3 : last < (Mf (prm β)).1 2 i + pT (prm β) i 5
        · have htk := ivO_take hI hb c3 (by omega)
          rw [if_pos c3, r_lesser (by omega) (by omega) (by omega) (by omega), zI_of (n := min best ((Mf (prm β)).1 2 i + pT (prm β) i 5)) (by omega) (by omega)]
          by_cases c4 : best ≤ (Mf (prm β)).1 2 i + pT (prm β) i 5
          · rw [if_pos c4] at htk ⊢
            exact hrec2 _ ⟨_, _, rfl, htk⟩
          · rw [if_neg c4] at htk ⊢
            exact hrec2 _ ⟨_, _, rfl, htk⟩
        · rw [if_neg c3]
          exact hskip (Or.inr (by omega))
      · have hb : bkB β (Mf (prm β)).1 d i = false := bfalse fun z => c2 (bk_iff.mp z).1
        rw [if_neg (show ¬ (((bl β).getD i 0 : Nat) : Int) = (d : Int) by omega)]
        exact hskip (Or.inl hb)
    · have hb : bkB β (Mf (prm β)).1 d i = false := bfalse fun z => (bk_iff.mp z).2 (by omega)
      rw [if_neg c, zI_of (n := 9) (by omega) (by omega), if_neg (show ¬ (9 : Int) = 8 by omega)]
      exact hskip (Or.inl hb)
  · rintro s ⟨best, many, rfl, hI⟩ rec2
    obtain ⟨i1, i2, i3, i4⟩ := hI
    have hst := oc_step (β := β) (N := (Mf (prm β)).1) (d := d) i1 i4
    rw [← i3] at hst
    have hlow := fun m (hm : m < best) => oc_low (β := β) (N := (Mf (prm β)).1) (d := d) hm i4
    have hob := oc_bd (N := (Mf (prm β)).1) hP (d := d) (m := best)
    have hmb := mul_bd hob hsz
    have e11 : s1 + many * dF β d 7 = ocF β (Mf (prm β)).1 d best * dF β d 7 := by rw [w1, hst, Int.add_mul]
    dsimp only
    simp (disch := omega) only [zI_of (n := ((bl β).length : Int)), h19, if_pos, hd7, bind_some', xlet_eq]
    rw [e11, zI_of (n := ocF β (Mf (prm β)).1 d best * dF β d 7) (by omega) (by omega), zI_of (n := l) (by omega) (by omega)]
    by_cases c : ocF β (Mf (prm β)).1 d best * dF β d 7 ≤ l
    · rw [if_pos c]
      have hb5 : best ≤ 125000 := by
        rcases Int.lt_or_le 125000 best with z | z
        · have := hall best (by omega)
          omega
        · exact z
      refine hrec _ ⟨rfl, c, by omega, hb5⟩ ?_
      omega
    · rw [if_neg c]
      refine OK_some ?_
      have h1 : ¬ best < T := fun z => by
        have := t3 best z
        omega
      have h2 : ¬ T < best := fun z => by
        have := Int.mul_le_mul_of_nonneg_right (hlow T z) hsz.1
        omega
      omega
/-- the same but for the streets -/
def Ag (β γ : Nat → Int) : Prop := ∀ i, i < 289 → (i < 86 ∨ 166 ≤ i) → γ i = β i
theorem Ag_dF (h : Ag β γ) {d w : Nat} (hd : d < 6) (hw : w < 10) : dF γ d w = dF β d w := h _ (by omega) (by omega)
theorem Ag_oF (h : Ag β γ) {o w : Nat} (ho : o < 24) (hw : w < 5) : oF γ o w = oF β o w := h _ (by omega) (by omega)
theorem Ag_ahead (h : Ag β γ) (hV : V β) {o : Nat} (ho : (o : Int) < β 9) : aheadF γ o = aheadF β o := by
  have v9 := hV.2.2.2.2.2.2.2.2.2.1
  unfold aheadF
  rw [h 9 (by omega) (by omega)]
  refine sumTo_congr fun i hi => ?_
  have e : aheadB γ i o = aheadB β i o := by
    unfold aheadB
    rw [Ag_oF h (show i < 24 by omega) (by omega), Ag_oF h (show o < 24 by omega) (by omega)]
  rw [Ag_oF h (show i < 24 by omega) (by omega), Ag_oF h (show i < 24 by omega) (by omega), Ag_oF h (show i < 24 by omega) (by omega), Ag_oF h (show o < 24 by omega) (by omega), e]
theorem r_isReady2 (hk : 185 ≤ k ∧ k ≤ 187) (hs : σ k = γ) (hA : Ag β γ) (hVg : V γ) (hV : V β) (h60 : allF β ≤ 60) (hG : RG σ β) (hn : 4000000 ≤ n) {o : Nat} (ho : (o : Int) < β 9) : m_X13_isReady n k o σ = some (if rdyF β (Mf (prm β)).1 o = -1 then 0 else 1) := by
  have hP := prm_V hV h60
  have hF := FN_Mf hV h60
  have v9 := hV.2.2.2.2.2.2.2.2.2.1
  have v1 := hV.2.1
  have vr := hV.2.2.2.2.2.2.2.2.2.2.2.2.2.2 o ho
  have hah := aheadF_bd hV o
  have h9 : γ 9 = β 9 := hA 9 (by omega) (by omega)
  have hme := r_isMeant (σ := σ) (k := k) (i := o) (by rw [hs]; exact hVg) (by rw [hs, h9]; exact ho)
  have hga := r_givenAhead (σ := σ) (k := k) (n := n) (j := o) (by rw [hs]; exact hVg) hn (by rw [hs, h9]; exact ho)
  have ho1 := r_order1 (σ := σ) (k := k) (i := o) (by omega)
  have ho2 := r_order2 (σ := σ) (k := k) (i := o) (by omega)
  rw [hs] at hme hga ho1 ho2
  rw [Ag_oF hA (by omega) (by omega)] at hme ho1 ho2
  rw [Ag_ahead hA hV ho] at hga
  unfold m_X13_isReady rdyF
  rw [hme, bind_some']
  by_cases c : oF β o 4 = 0
  · have hd4 : 0 ≤ oF β o 1 ∧ oF β o 1 < β 4 := by omega
    have v4 := hV.2.2.2.2.1
    obtain ⟨d, hd⟩ : ∃ d : Nat, (d : Int) = oF β o 1 := ⟨(oF β o 1).toNat, by omega⟩
    have vd := hV.2.2.2.2.2.2.2.2.2.2.1 d (by omega)
    have hd7 := r_dough7 (σ := σ) (k := k) (i := d) (by omega)
    rw [hs, Ag_dF hA (by omega) (by omega)] at hd7
    have hbl := r_bakedLoaves2 hV hP hG hF hn (d := d) (by omega) hd7
    have hmb := mul_bd (cbF_bd (N := (Mf (prm β)).1) hP d (k := (bl β).length) (Nat.le_refl _)) (y := dF β d 7) (by omega)
    rw [if_pos c, if_pos c, zI_of (n := 1) (by omega) (by omega), hga, ho2, ho1, ← hd, tn_cast]
    simp (disch := omega) only [xj_eq, bind_some', hbl, if_neg, zI_of (n := cbF β (Mf (prm β)).1 d (bl β).length * dF β d 7), zI_of (n := aheadF β o + oF β o 2)]
    by_cases c2 : cbF β (Mf (prm β)).1 d (bl β).length * dF β d 7 < aheadF β o + oF β o 2
    · rw [if_pos c2, xbo_0, takF_none (by omega) (by omega), if_pos rfl, if_pos rfl]
    · obtain ⟨t1, -, -⟩ := takF_spec hP (Mf_I hV h60) hF (d := d) (l := aheadF β o + oF β o 2 - 1) (by omega) (by omega) (by omega)
      rw [if_neg c2, xbo_1, if_neg]
      rw [if_neg (by omega)]
      omega
  · rw [if_neg c, if_neg c, zI_of (n := 0) (by omega) (by omega)]
    simp (disch := omega) only [xj_eq, xbo_0]
    rfl
theorem r_readyAt2 (hk : 185 ≤ k ∧ k ≤ 187) (hs : σ k = γ) (hA : Ag β γ) (hVg : V γ) (hV : V β) (h60 : allF β ≤ 60) (hG : RG σ β) (hn : 4000000 ≤ n) {o : Nat} (ho : (o : Int) < β 9) : m_X13_readyAt n k o σ = some (rdyF β (Mf (prm β)).1 o) := by
  have hP := prm_V hV h60
  have hF := FN_Mf hV h60
  have v9 := hV.2.2.2.2.2.2.2.2.2.1
  have v1 := hV.2.1
  have vr := hV.2.2.2.2.2.2.2.2.2.2.2.2.2.2 o ho
  have hah := aheadF_bd hV o
  have h9 : γ 9 = β 9 := hA 9 (by omega) (by omega)
  have hga := r_givenAhead (σ := σ) (k := k) (n := n) (j := o) (by rw [hs]; exact hVg) hn (by rw [hs, h9]; exact ho)
  have ho1 := r_order1 (σ := σ) (k := k) (i := o) (by omega)
  have ho2 := r_order2 (σ := σ) (k := k) (i := o) (by omega)
  rw [hs] at hga ho1 ho2
  rw [Ag_oF hA (by omega) (by omega)] at ho1 ho2
  rw [Ag_ahead hA hV ho] at hga
  unfold m_X13_readyAt
  rw [r_isReady2 hk hs hA hVg hV h60 hG hn ho, bind_some', xj_eq]
  by_cases cr : rdyF β (Mf (prm β)).1 o = -1
  · rw [if_pos cr, zI_of (n := 0) (by omega) (by omega), if_pos rfl, cr]
  · rw [if_neg cr, zI_of (n := 1) (by omega) (by omega), if_neg (by omega)]
    have c : oF β o 4 = 0 := by
      refine Classical.byContradiction fun h => cr ?_
      unfold rdyF
      rw [if_neg h]
    have ct : takF β (Mf (prm β)).1 (oF β o 1).toNat (aheadF β o + oF β o 2 - 1) ≠ -1 := fun h => cr (by
      unfold rdyF
      rw [if_pos c, if_pos h])
    have ev : rdyF β (Mf (prm β)).1 o = takF β (Mf (prm β)).1 (oF β o 1).toNat (aheadF β o + oF β o 2 - 1) + β 1 := by
      unfold rdyF
      rw [if_pos c, if_neg ct]
    have v4 := hV.2.2.2.2.1
    obtain ⟨d, hd⟩ : ∃ d : Nat, (d : Int) = oF β o 1 := ⟨(oF β o 1).toNat, by omega⟩
    have vd := hV.2.2.2.2.2.2.2.2.2.2.1 d (by omega)
    rw [← hd, tn_cast] at ev ct
    have hd7 := r_dough7 (σ := σ) (k := k) (i := d) (by omega)
    rw [hs, Ag_dF hA (by omega) (by omega)] at hd7
    have hlt : aheadF β o + oF β o 2 - 1 < cbF β (Mf (prm β)).1 d (bl β).length * dF β d 7 := by
      rcases Int.lt_or_le (aheadF β o + oF β o 2 - 1) (cbF β (Mf (prm β)).1 d (bl β).length * dF β d 7) with z | z
      · exact z
      · exact absurd (takF_none (by omega) z) ct
    have hoa := r_outAt2 hV h60 hG hn (d := d) (by omega) hd7 (l := aheadF β o + oF β o 2 - 1) (by omega) hlt
    rw [ho1, ← hd, bind_some', hga, bind_some', ho2, bind_some', hoa, bind_some', xck_of (by omega) (by omega), hs, tn_lit.2.1, hA 1 (by omega) (by omega), ev]
end OUT5
