/-! the class's plan and the reference's are one -/
section PLF
variable {β γ : Nat → Int} {e f : Int} {i : Nat} {N : Nat → Nat → Int}
def vcF (γ : Nat → Int) (e : Int) (v : Nat) : Int := if v < 3 then vnF γ v + (if v = 0 then e else 0) else 0
abbrev PX (γ β : Nat → Int) (e f z : Int) : PP := (dsF γ, (β 6).toNat, rdC f β (Mf (prm β)).1 (β 9).toNat, duC z β (β 9).toNat, ldC β (β 9).toNat, vcF γ e, srvF β (Mf (prm β)).1, (β 8).toNat)
theorem srv_lt : srvF β N < 128 := nand_lt (b7_lt _)
theorem srv_bit {s : Nat} (hs : s < 7) (h : (srvF β N).testBit s = true) : (∃ o, o < (β 9).toNat ∧ mtB β s o = true) ∧ ∀ o, o < (β 9).toNat → mtB β s o = true → rdyF β N o ≠ -1 := by
  unfold srvF at h
  rw [nand_bit hs, Bool.and_eq_true] at h
  unfold odF msF at h
  rw [b7_bit _ hs, b7_bit _ hs, exB_iff] at h
  refine ⟨h.1, fun o ho hm hr => ?_⟩
  have h2 : exB (β 9).toNat (fun o => mtB β s o && decide (rdyF β N o = -1)) = true := (exB_iff _).mpr ⟨o, ho, by rw [hm, decide_eq_true hr]; rfl⟩
  rw [h2] at h
  exact absurd h.2 (by decide)
theorem srv_pow (hV : V β) : srvF β N < 2 ^ (β 6).toNat := by
  have v6 := hV.2.2.2.2.2.2.1
  refine Nat.lt_pow_two_of_testBit _ fun s hs => ?_
  by_cases c : s < 7
  · cases h : (srvF β N).testBit s
    · rfl
    · obtain ⟨o, ho, hm⟩ := (srv_bit c h).1
      have := mt_lt hV (o := o) (by omega) hm
      omega
  · have hp : (2 : Nat) ^ 7 ≤ 2 ^ s := Nat.pow_le_pow_right (by omega) (by omega)
    have hl := srv_lt (β := β) (N := N)
    exact Nat.testBit_lt_two_pow (by omega)
theorem du_cut {k s : Nat} : duC 1439 β k s = min 1439 (duC 1000000 β k s) := by
  unfold duC
  induction k with
  | zero => show (1439 : Int) = min 1439 1000000; omega
  | succ k ih =>
    rw [minTo, minTo, ih]
    split <;> omega
theorem du_same (hV : V β) {s : Nat} (hs : s < 7) (h : (srvF β N).testBit s = true) : duC 1439 β (β 9).toNat s = duC 1000000 β (β 9).toNat s := by
  obtain ⟨o, ho, hm⟩ := (srv_bit hs h).1
  have vr := (hV.2.2.2.2.2.2.2.2.2.2.2.2.2.2 o (by omega)).2.2.2.1
  have h2 := minTo_at (z := 1000000) (f := fun o => if mtB β s o = true then oF β o 3 else 1000000) (β 9).toNat o ho
  try dsimp only at h2
  rw [if_pos hm] at h2
  rw [du_cut]
  unfold duC
  omega
theorem rd_shift (hf : 0 ≤ f) {s : Nat} (hr : ∀ o, o < (β 9).toNat → -1 ≤ rdyF β N o) (h : ∀ o, o < (β 9).toNat → mtB β s o = true → rdyF β N o ≠ -1) : ∀ k, k ≤ (β 9).toNat → rdC f β N k s = if exB k (fun o => mtB β s o) = true then f + rdC 0 β N k s else 0
  | 0, _ => rfl
  | k + 1, hk => by
    have ih := rd_shift hf hr h k (by omega)
    have h0 := maxTo_ge0 (f := fun o => if mtB β s o = true then shF 0 (rdyF β N o) else 0) k
    unfold rdC at ih ⊢
    rw [maxTo, maxTo, ih, exB]
    by_cases c : mtB β s k = true
    · have h1 := h k (by omega) c
      have h2 := hr k (by omega)
      rw [if_pos c, if_pos c, c, Bool.or_true, if_pos rfl]
      unfold shF at h0 ⊢
      rw [if_neg h1, if_neg h1]
      by_cases d : exB k (fun o => mtB β s o) = true
      · rw [if_pos d]
        omega
      · rw [if_neg d]
        have hz : maxTo k (fun o => if mtB β s o = true then if rdyF β N o = -1 then -1 else rdyF β N o + 0 else 0) = 0 := by
          refine Int.le_antisymm (maxTo_le (Int.le_refl _) _ fun o ho => ?_) h0
          try dsimp only
          rw [if_neg]
          · exact Int.le_refl _
          · intro z
            exact d ((exB_iff k).mpr ⟨o, ho, z⟩)
        rw [hz]
        omega
    · rw [if_neg c, if_neg c, Bool.eq_false_iff.mpr c, Bool.or_false]
      by_cases d : exB k (fun o => mtB β s o) = true
      · rw [if_pos d, if_pos d]
        omega
      · rw [if_neg d, if_neg d]
        omega
theorem rd_same (hV : V β) (h60 : allF β ≤ 60) (hf : 0 ≤ f) {s : Nat} (hs : s < 7) (h : (srvF β (Mf (prm β)).1).testBit s = true) : rdC f β (Mf (prm β)).1 (β 9).toNat s = f + rdC 0 β (Mf (prm β)).1 (β 9).toNat s := by
  obtain ⟨⟨o, ho, hm⟩, h2⟩ := srv_bit hs h
  rw [rd_shift hf (fun o ho => (rdyF_bd hV h60 (o := o) (by omega)).1) h2 _ (Nat.le_refl _), if_pos ((exB_iff _).mpr ⟨o, ho, hm⟩)]
theorem dp_same (hV : V β) (h60 : allF β ≤ 60) (hf : 0 ≤ f) {m : Nat} (hm : sbP m (srvF β (Mf (prm β)).1)) {s : Nat} (hs : s < 7) (ht : m.testBit s = true) : dpF (rdC f β (Mf (prm β)).1 (β 9).toNat) m = f + dpF (rdC 0 β (Mf (prm β)).1 (β 9).toNat) m := by
  have key : ∀ k, k ≤ 7 → maxTo k (fun s => if m.testBit s = true then rdC f β (Mf (prm β)).1 (β 9).toNat s else 0) = if exB k (fun s => m.testBit s) = true then f + maxTo k (fun s => if m.testBit s = true then rdC 0 β (Mf (prm β)).1 (β 9).toNat s else 0) else 0 := by
    intro k
    induction k with
    | zero => intro _; rfl
    | succ k ih =>
      intro hk
      have h0 := maxTo_ge0 (f := fun s => if m.testBit s = true then rdC 0 β (Mf (prm β)).1 (β 9).toNat s else 0) k
      rw [maxTo, maxTo, ih (by omega), exB]
      by_cases c : m.testBit k = true
      · have h1 := rd_same hV h60 hf (s := k) (by omega) (hm k (by omega) c)
        have h2 := maxTo_ge0 (f := fun o => if mtB β k o = true then shF 0 (rdyF β (Mf (prm β)).1 o) else 0) (β 9).toNat
        have h3 : 0 ≤ rdC 0 β (Mf (prm β)).1 (β 9).toNat k := h2
        rw [if_pos c, if_pos c, c, Bool.or_true, if_pos rfl, h1]
        by_cases d : exB k (fun s => m.testBit s) = true
        · rw [if_pos d]
          omega
        · rw [if_neg d]
          have hz : maxTo k (fun s => if m.testBit s = true then rdC 0 β (Mf (prm β)).1 (β 9).toNat s else 0) = 0 := by
            refine Int.le_antisymm (maxTo_le (Int.le_refl _) _ fun o ho => ?_) h0
            try dsimp only
            rw [if_neg]
            · exact Int.le_refl _
            · intro z
              exact d ((exB_iff k).mpr ⟨o, ho, z⟩)
          rw [hz]
          omega
      · rw [if_neg c, if_neg c, Bool.eq_false_iff.mpr c, Bool.or_false]
        by_cases d : exB k (fun s => m.testBit s) = true
        · rw [if_pos d, if_pos d]
          omega
        · rw [if_neg d, if_neg d]
          omega
  unfold dpF
  rw [key 7 (Nat.le_refl _), if_pos ((exB_iff _).mpr ⟨s, hs, ht⟩)]
theorem PX_V (hA : Ag β γ) (hVg : V γ) (hV : V β) (h60 : allF β ≤ 60) (he : e = 0 ∨ e = 1000000) (hf : 0 ≤ f ∧ f ≤ 1439) {z : Int} (hz : 0 ≤ z ∧ z ≤ 1000000) : PPV (PX γ β e f z) := by
  have v6 := hV.2.2.2.2.2.2.1
  have v8 := hV.2.2.2.2.2.2.2.2.1
  have vv := hVg.2.2.2.2.2.2.2.2.2.2.2.2.2.1
  have g8 : γ 8 = β 8 := hA 8 (by omega) (by omega)
  refine ⟨dsF_b hVg, by show (β 6).toNat ≤ 7; omega, srv_pow hV, by show (β 8).toNat ≤ 3; omega, fun s hs => ⟨?_, ldC_bd hV (Nat.le_refl _) s, ?_⟩, fun v hv => ?_⟩
  · have := duC_bd hV (z := z) hz.1 (Nat.le_refl (β 9).toNat) s
    show 0 ≤ duC z β (β 9).toNat s ∧ duC z β (β 9).toNat s ≤ 1000000
    omega
  · have := rdC_bd hV h60 hf (Nat.le_refl (β 9).toNat) s
    show 0 ≤ rdC f β (Mf (prm β)).1 (β 9).toNat s ∧ rdC f β (Mf (prm β)).1 (β 9).toNat s ≤ 500000
    omega
  · have hv' : v < (β 8).toNat := hv
    have := vv v (by omega)
    show 0 ≤ vcF γ e v ∧ vcF γ e v ≤ 1002000
    unfold vcF
    rw [if_pos (by omega)]
    split <;> omega
theorem sumTo_swap (a b : Nat) (g : Nat → Nat → Int) : sumTo a (fun x => sumTo b (fun y => g x y)) = sumTo b (fun y => sumTo a (fun x => g x y)) := by
  induction a with
  | zero => exact (sumTo_zero fun _ _ => rfl).symm
  | succ a ih =>
    rw [sumTo, ih, ← sumTo_add]
    rfl
theorem sumTo_one {b : Nat} {g : Nat → Int} {j : Nat} (hj : j < b) (h : ∀ i, i < b → i ≠ j → g i = 0) : sumTo b g = g j := by
  have := sumTo_put (f := fun _ => (0 : Int)) (g := g) (j := j) b hj (fun i hi hne => h i hi hne)
  rw [sumTo_zero (fun _ _ => rfl)] at this
  omega
theorem lates_same (hV : V β) (h60 : allF β ≤ 60) (hf : 0 ≤ f) (hv : srvF β (Mf (prm β)).1 = 0 ∨ v1 (β 8).toNat = (β 8).toNat) (i : Nat) : qLa (PX γ β e f 1439) i = qLr (PX γ β e 0 1000000) f i := by
  unfold qLa qLr pLa
  rw [sumTo_swap]
  refine sumTo_congr fun s hs => ?_
  show sumTo (β 8).toNat (fun v => if (qG (PX γ β e f 1439) i v).testBit s = true ∧ duC 1439 β (β 9).toNat s < dpF (rdC f β (Mf (prm β)).1 (β 9).toNat) (qG (PX γ β e f 1439) i v) + arF (dsF γ) (β 6).toNat (qG (PX γ β e f 1439) i v) s then (1 : Int) else 0) = if (srvF β (Mf (prm β)).1).testBit s = true ∧ duC 1000000 β (β 9).toNat s < f + qAr (PX γ β e 0 1000000) i s (qA (PX γ β e 0 1000000) i s) then 1 else 0
  have hbit : ∀ v, (qG (PX γ β e f 1439) i v).testBit s = ((srvF β (Mf (prm β)).1).testBit s && decide (qA (PX γ β e 0 1000000) i s = v)) := fun v => sgA_bit hs
  by_cases t : (srvF β (Mf (prm β)).1).testBit s = true
  · have hv1 : v1 (β 8).toNat = (β 8).toNat := by
      rcases hv with z | z
      · rw [z, Nat.zero_testBit] at t
        exact absurd t (by decide)
      · exact z
    have ha : qA (PX γ β e 0 1000000) i s < (β 8).toNat := by
      have : qA (PX γ β e 0 1000000) i s < v1 (β 8).toNat := qA_lt i s
      omega
    rw [sumTo_one ha (fun v hv hne => ?_)]
    · have hb2 : (qG (PX γ β e f 1439) i (qA (PX γ β e 0 1000000) i s)).testBit s = true := by rw [hbit, t, decide_eq_true rfl]; rfl
      have hsb : sbP (qG (PX γ β e f 1439) i (qA (PX γ β e 0 1000000) i s)) (srvF β (Mf (prm β)).1) := qG_sb (P := PX γ β e f 1439) i _
      have hdp := dp_same hV h60 hf hsb hs hb2
      have hdu := du_same hV hs t
      have har : qAr (PX γ β e 0 1000000) i s (qA (PX γ β e 0 1000000) i s) = dpF (rdC 0 β (Mf (prm β)).1 (β 9).toNat) (qG (PX γ β e f 1439) i (qA (PX γ β e 0 1000000) i s)) + arF (dsF γ) (β 6).toNat (qG (PX γ β e f 1439) i (qA (PX γ β e 0 1000000) i s)) s := rfl
      rw [hdp, hdu, har, Int.add_assoc]
      by_cases c : duC 1000000 β (β 9).toNat s < f + (dpF (rdC 0 β (Mf (prm β)).1 (β 9).toNat) (qG (PX γ β e f 1439) i (qA (PX γ β e 0 1000000) i s)) + arF (dsF γ) (β 6).toNat (qG (PX γ β e f 1439) i (qA (PX γ β e 0 1000000) i s)) s)
      · rw [if_pos ⟨hb2, c⟩, if_pos ⟨t, c⟩]
      · rw [if_neg (fun z => c z.2), if_neg (fun z => c z.2)]
    · rw [if_neg]
      rw [hbit, decide_eq_false (fun z => hne z.symm), Bool.and_false]
      exact fun z => absurd z.1 (by decide)
  · rw [if_neg (fun z => t z.1)]
    refine sumTo_zero fun v _ => ?_
    try dsimp only
    rw [hbit, Bool.eq_false_iff.mpr t, Bool.false_and]
    exact if_neg (fun z => absurd z.1 (by decide))
theorem slacks_same (hV : V β) (h60 : allF β ≤ 60) (hv : srvF β (Mf (prm β)).1 = 0 ∨ v1 (β 8).toNat = (β 8).toNat) (i : Nat) : qSl (PX γ β e 0 1439) i = qSr (PX γ β e 0 1000000) i := by
  have hbit : ∀ v s, s < 7 → (qG (PX γ β e 0 1439) i v).testBit s = ((srvF β (Mf (prm β)).1).testBit s && decide (qA (PX γ β e 0 1000000) i s = v)) := fun v s hs => sgA_bit hs
  refine Int.le_antisymm (minTo_ge (minTo_le _) _ fun s hs => ?_) (minTo_ge (minTo_le _) _ fun v hv' => minTo_ge (minTo_le _) _ fun s hs => ?_)
  · show qSl (PX γ β e 0 1439) i ≤ if (srvF β (Mf (prm β)).1).testBit s = true then duC 1000000 β (β 9).toNat s - qAr (PX γ β e 0 1000000) i s (qA (PX γ β e 0 1000000) i s) else 1439
    by_cases t : (srvF β (Mf (prm β)).1).testBit s = true
    · have hv1 : v1 (β 8).toNat = (β 8).toNat := by
        rcases hv with z | z
        · rw [z, Nat.zero_testBit] at t
          exact absurd t (by decide)
        · exact z
      have ha : qA (PX γ β e 0 1000000) i s < (β 8).toNat := by
        have : qA (PX γ β e 0 1000000) i s < v1 (β 8).toNat := qA_lt i s
        omega
      have hb2 : (qG (PX γ β e 0 1439) i (qA (PX γ β e 0 1000000) i s)).testBit s = true := by rw [hbit _ _ hs, t, decide_eq_true rfl]; rfl
      have h1 : qSl (PX γ β e 0 1439) i ≤ pSl (dsF γ) (β 6).toNat (rdC 0 β (Mf (prm β)).1 (β 9).toNat) (duC 1439 β (β 9).toNat) (qG (PX γ β e 0 1439) i (qA (PX γ β e 0 1000000) i s)) := minTo_at (β 8).toNat _ ha
      have h2 : pSl (dsF γ) (β 6).toNat (rdC 0 β (Mf (prm β)).1 (β 9).toNat) (duC 1439 β (β 9).toNat) (qG (PX γ β e 0 1439) i (qA (PX γ β e 0 1000000) i s)) ≤ _ := minTo_at 7 s hs
      try dsimp only at h2
      rw [if_pos hb2, du_same hV hs t] at h2
      rw [if_pos t]
      exact Int.le_trans h1 h2
    · rw [if_neg t]
      exact minTo_le _
  · show qSr (PX γ β e 0 1000000) i ≤ if (qG (PX γ β e 0 1439) i v).testBit s = true then duC 1439 β (β 9).toNat s - (dpF (rdC 0 β (Mf (prm β)).1 (β 9).toNat) (qG (PX γ β e 0 1439) i v) + arF (dsF γ) (β 6).toNat (qG (PX γ β e 0 1439) i v) s) else 1439
    by_cases t : (qG (PX γ β e 0 1439) i v).testBit s = true
    · rw [if_pos t]
      rw [hbit _ _ hs, Bool.and_eq_true, decide_eq_true_eq] at t
      have h2 : qSr (PX γ β e 0 1000000) i ≤ _ := minTo_at 7 s hs
      try dsimp only at h2
      rw [if_pos t.1] at h2
      rw [du_same hV hs t.1]
      rw [t.2] at h2
      exact h2
    · rw [if_neg t]
      exact minTo_le _
theorem bsI_congr {fz fz' : Nat → Bool} {la la' mi mi' : Nat → Int} : ∀ k, (∀ i, i < k → fz i = fz' i ∧ la i = la' i ∧ mi i = mi' i) → bsI fz la mi k = bsI fz' la' mi' k
  | 0, _ => rfl
  | k + 1, h => by
    have ih := bsI_congr k (fun i hi => h i (by omega))
    obtain ⟨h1, h2, h3⟩ := h k (by omega)
    have hb := bsI_bd fz' la' mi' k
    rw [bsI, bsI, ih, h1, h2, h3]
    by_cases c : bsI fz' la' mi' k = -1
    · rw [c]
      simp
    · obtain ⟨-, g2, g3⟩ := h (bsI fz' la' mi' k).toNat (by omega)
      rw [g2, g3]
theorem bsS_congr {fz fz' : Nat → Bool} {sl sl' : Nat → Int} : ∀ k, (∀ i, i < k → fz i = fz' i ∧ sl i = sl' i) → bsS fz sl k = bsS fz' sl' k
  | 0, _ => rfl
  | k + 1, h => by
    obtain ⟨h1, h2⟩ := h k (by omega)
    rw [bsS, bsS, bsS_congr k (fun i hi => h i (by omega)), h1, h2]
theorem bsI_none {fz : Nat → Bool} {la mi : Nat → Int} : ∀ k, (∀ i, i < k → fz i = false) → bsI fz la mi k = -1
  | 0, _ => rfl
  | k + 1, h => by
    rw [bsI, bsI_none k (fun i hi => h i (by omega)), h k (by omega), if_neg (fun z => absurd z.1 (by decide))]
theorem bsS_none {fz : Nat → Bool} {sl : Nat → Int} : ∀ k, (∀ i, i < k → fz i = false) → bsS fz sl k = -1
  | 0, _ => rfl
  | k + 1, h => by
    rw [bsS, bsS_none k (fun i hi => h i (by omega)), h k (by omega), if_neg (by decide)]
/-- which assignments are possible: the same -/
theorem oks_same (hVg : V γ) (hP : PPV (PX γ β e f 1439)) (hv : srvF β (Mf (prm β)).1 = 0 ∨ v1 (β 8).toNat = (β 8).toNat) :
    (rsF (dsF γ) (β 6).toNat (srvF β (Mf (prm β)).1) 7 < 1000000 → (∀ i, qFz (PX γ β e f 1439) i = qOkB (PX γ β e 0 1000000) i) ∧ qW (PX γ β e f 1439) = qN (PX γ β e 0 1000000)) ∧ (¬ rsF (dsF γ) (β 6).toNat (srvF β (Mf (prm β)).1) 7 < 1000000 → (∀ i, qOkB (PX γ β e 0 1000000) i = false) ∧ qW (PX γ β e f 1439) = 0) := by
  have hS : (β 6).toNat ≤ 7 := hP.2.1
  have hm : srvF β (Mf (prm β)).1 < 2 ^ (β 6).toNat := hP.2.2.1
  constructor
  · intro hr
    refine ⟨fun i => ?_, ?_⟩
    · have h2 : fzB (fun v => rsF (dsF γ) (β 6).toNat (qG (PX γ β e 0 1000000) i v) 7) (fun _ => 999999) (β 8).toNat = true := (fzB_iff _).mpr fun v hv => by
        have := reach_sub hVg hS hm (qG_lt hP i v) (qG_sb (P := PX γ β e f 1439) i v) hr
        have h3 : rsF (dsF γ) (β 6).toNat (qG (PX γ β e 0 1000000) i v) 7 < 1000000 := this
        omega
      show fzB _ _ _ = (fzB _ _ _ && fzB (fun v => rsF (dsF γ) (β 6).toNat (qG (PX γ β e 0 1000000) i v) 7) (fun _ => 999999) (β 8).toNat)
      rw [h2, Bool.and_true]
      rfl
    · have e1 : qW (PX γ β e f 1439) = pwA (srvF β (Mf (prm β)).1) (β 8).toNat 7 := if_pos hr
      show _ = pwA (srvF β (Mf (prm β)).1) (v1 (β 8).toNat) 7
      rw [e1]
      rcases hv with z | z
      · rw [z, pwA_0, pwA_0]
      · rw [z]
  · intro hr
    refine ⟨fun i => ?_, if_neg hr⟩
    have hne : ¬ ∀ s, (srvF β (Mf (prm β)).1).testBit s = true → dsF γ 7 s < 1000000 := fun h => hr ((reach_iff hVg hS hm).mpr h)
    obtain ⟨s, hs⟩ := Classical.not_forall.mp hne
    obtain ⟨t, hfar⟩ := Classical.not_imp.mp hs
    have hs7 := bit_lt hm t
    have hv1 : v1 (β 8).toNat = (β 8).toNat := by
      rcases hv with z | z
      · rw [z, Nat.zero_testBit] at t
        exact absurd t (by decide)
      · exact z
    have ha : qA (PX γ β e 0 1000000) i s < (β 8).toNat := by
      have : qA (PX γ β e 0 1000000) i s < v1 (β 8).toNat := qA_lt i s
      omega
    have hb2 : (qG (PX γ β e 0 1000000) i (qA (PX γ β e 0 1000000) i s)).testBit s = true := by
      have : (qG (PX γ β e 0 1000000) i (qA (PX γ β e 0 1000000) i s)).testBit s = ((srvF β (Mf (prm β)).1).testBit s && decide (qA (PX γ β e 0 1000000) i s = qA (PX γ β e 0 1000000) i s)) := sgA_bit (by omega)
      rw [this, t, decide_eq_true rfl]
      rfl
    have hlt := qG_lt hP i (qA (PX γ β e 0 1000000) i s)
    have hd := rsF_far hS (dsF_b hVg) (dsF_t hVg) (qG (PX γ β e 0 1000000) i (qA (PX γ β e 0 1000000) i s)) hlt 7 s (by omega) hb2
    rw [Bool.eq_false_iff]
    intro h
    have := (qOkB_iff.mp h (qA (PX γ β e 0 1000000) i s) ha).2
    have h3 : rsF (dsF γ) (β 6).toNat (qG (PX γ β e 0 1000000) i (qA (PX γ β e 0 1000000) i s)) 7 < 1000000 := this
    omega
theorem best_same (hA : Ag β γ) (hVg : V γ) (hV : V β) (h60 : allF β ≤ 60) (he : e = 0 ∨ e = 1000000) (hf : 0 ≤ f ∧ f ≤ 1439) (hv : srvF β (Mf (prm β)).1 = 0 ∨ v1 (β 8).toNat = (β 8).toNat) : qB (PX γ β e f 1439) = qBr (PX γ β e 0 1000000) f := by
  have hP := PX_V (z := 1439) hA hVg hV h60 he hf (by omega)
  obtain ⟨h1, h2⟩ := oks_same hVg hP hv
  unfold qB qBr
  by_cases c : rsF (dsF γ) (β 6).toNat (srvF β (Mf (prm β)).1) 7 < 1000000
  · obtain ⟨g1, g2⟩ := h1 c
    rw [g2]
    exact bsI_congr _ fun i _ => ⟨g1 i, lates_same hV h60 hf.1 hv i, rfl⟩
  · obtain ⟨g1, g2⟩ := h2 c
    rw [g2, bsI_none _ (fun i _ => g1 i)]
    rfl
theorem slack_same (hA : Ag β γ) (hVg : V γ) (hV : V β) (h60 : allF β ≤ 60) (he : e = 0 ∨ e = 1000000) (hv : srvF β (Mf (prm β)).1 = 0 ∨ v1 (β 8).toNat = (β 8).toNat) : qT (PX γ β e 0 1439) = qTr (PX γ β e 0 1000000) := by
  have hP := PX_V (z := 1439) (f := 0) hA hVg hV h60 he (by omega) (by omega)
  obtain ⟨h1, h2⟩ := oks_same hVg hP hv
  unfold qT qTr
  by_cases c : rsF (dsF γ) (β 6).toNat (srvF β (Mf (prm β)).1) 7 < 1000000
  · obtain ⟨g1, g2⟩ := h1 c
    rw [g2]
    exact bsS_congr _ fun i _ => ⟨g1 i, slacks_same hV h60 hv i⟩
  · obtain ⟨g1, g2⟩ := h2 c
    rw [g2, bsS_none _ (fun i _ => g1 i)]
    rfl
/-- without a van nothing is served -/
theorem noVan (hP : PPV (PX γ β e f 1439)) (hm : srvF β (Mf (prm β)).1 ≠ 0) (hV0 : (β 8).toNat = 0) : qB (PX γ β e f 1439) = -1 ∧ qT (PX γ β e f 1439) = -1 := by
  have hw : qW (PX γ β e f 1439) = 0 := by
    refine Nat.eq_zero_of_not_pos fun h => ?_
    rcases (qW_v hP h).1 with z | z
    · exact hm z
    · have z' : v1 (β 8).toNat = (β 8).toNat := z
      rw [hV0] at z'
      exact absurd z' (by decide)
  unfold qB qT
  rw [hw]
  exact ⟨rfl, rfl⟩
end PLF
