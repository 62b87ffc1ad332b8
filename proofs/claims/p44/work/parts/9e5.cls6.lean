/-! the class alone: when no shop fails -/
section CLS6
variable {σ τ : xS} {n : Nat} {β γ : Nat → Int} {f e : Int}
theorem max_add {mt : Nat → Bool} {r r' : Nat → Int} (hf : 0 ≤ f) : ∀ k, (∀ o, o < k → mt o = true → 0 ≤ r o ∧ r' o = r o + f) → (∀ o, o < k → mt o = false → r o = 0 ∧ r' o = 0) → ((∀ o, o < k → mt o = false) → maxTo k r = 0 ∧ maxTo k r' = 0) ∧ ((∃ o, o < k ∧ mt o = true) → maxTo k r' = maxTo k r + f)
  | 0, _, _ => ⟨fun _ => ⟨rfl, rfl⟩, fun ⟨o, h, _⟩ => absurd h (Nat.not_lt_zero _)⟩
  | k + 1, h1, h2 => by
    obtain ⟨i1, i2⟩ := max_add (mt := mt) (r := r) (r' := r') hf k (fun o ho => h1 o (by omega)) (fun o ho => h2 o (by omega))
    have g0 := maxTo_ge0 (f := r) k
    rw [maxTo, maxTo]
    refine ⟨fun h => ?_, fun hx => ?_⟩
    · have a := i1 (fun o ho => h o (by omega))
      have b := h2 k (by omega) (h k (by omega))
      omega
    · by_cases c : mt k = true
      · have b := h1 k (by omega) c
        by_cases d : ∃ o, o < k ∧ mt o = true
        · have a := i2 d
          omega
        · have a := i1 (fun o ho => by
            cases q : mt o with
            | false => rfl
            | true => exact absurd ⟨o, ho, q⟩ d)
          omega
      · have c' : mt k = false := bfalse c
        have b := h2 k (by omega) c'
        obtain ⟨o, ho, hm⟩ := hx
        have ho' : o < k := by
          by_cases z : o = k
          · rw [z, c'] at hm
            cases hm
          · omega
        have a := i2 ⟨o, ho', hm⟩
        omega
theorem min_iff {x z : Int} {g : Nat → Int} : ∀ k, x ≤ minTo z k g ↔ x ≤ z ∧ ∀ i, i < k → x ≤ g i
  | 0 => ⟨fun h => ⟨h, fun i hi => absurd hi (Nat.not_lt_zero _)⟩, fun h => h.1⟩
  | k + 1 => by
    rw [minTo]
    have ih := min_iff (x := x) (z := z) (g := g) k
    constructor
    · intro h
      have a := ih.mp (by omega)
      refine ⟨a.1, fun i hi => ?_⟩
      by_cases c : i = k
      · rw [c]
        omega
      · exact a.2 i (by omega)
    · intro h
      have a := ih.mpr ⟨h.1, fun i hi => h.2 i (by omega)⟩
      have b := h.2 k (by omega)
      omega
theorem sum_0 {g : Nat → Int} : ∀ k, (∀ i, i < k → 0 ≤ g i) → (sumTo k g = 0 ↔ ∀ i, i < k → g i = 0)
  | 0, _ => ⟨fun _ i hi => absurd hi (Nat.not_lt_zero _), fun _ => rfl⟩
  | k + 1, h => by
    have ih := sum_0 (g := g) k (fun i hi => h i (by omega))
    have b := sumTo_le (n := k) (f := fun _ => 0) (g := g) (fun i hi => h i (by omega))
    rw [sumTo_zero (fun _ _ => rfl)] at b
    have c := h k (by omega)
    rw [sumTo]
    constructor
    · intro z i hi
      by_cases d : i = k
      · rw [d]
        omega
      · exact ih.mp (by omega) i (by omega)
    · intro z
      have := ih.mpr (fun i hi => z i (by omega))
      have := z k (by omega)
      omega
/-- a shop that is served is ready f later, in a night that starts at f -/
theorem rd_add (hV : V β) (h60 : allF β ≤ 60) (hf : 0 ≤ f) {s : Nat} (hs : s < 7) (h : (srvF β ((Mf (prm β)).1)).testBit s = true) : rdC f β ((Mf (prm β)).1) (β 9).toNat s = rdC 0 β ((Mf (prm β)).1) (β 9).toNat s + f := by
  obtain ⟨h1, h2⟩ := srv_bit hs h
  refine (max_add (mt := mtB β s) hf _ (fun o ho hm => ?_) (fun o ho hm => ?_)).2 h1
  · have hn := h2 o ho hm
    have hb := rdyF_bd hV h60 (o := o) (by omega)
    rw [if_pos hm, if_pos hm]
    unfold shF
    rw [if_neg hn, if_neg hn]
    omega
  · rw [hm]
    exact ⟨rfl, rfl⟩
theorem dp_add (hV : V β) (h60 : allF β ≤ 60) (hf : 0 ≤ f) {m : Nat} (hm : sbP m (srvF β ((Mf (prm β)).1))) (h : ∃ s, s < 7 ∧ m.testBit s = true) : dpF (rdC f β ((Mf (prm β)).1) (β 9).toNat) m = dpF (rdC 0 β ((Mf (prm β)).1) (β 9).toNat) m + f := by
  refine (max_add (mt := fun s => m.testBit s) hf 7 (fun s hs ht => ?_) (fun s hs ht => ?_)).2 h
  · have ht' : m.testBit s = true := ht
    have hb := rdC_bd hV h60 (f := 0) (by omega) (Nat.le_refl (β 9).toNat) s
    rw [if_pos ht', if_pos ht', rd_add hV h60 hf hs (hm s hs ht')]
    exact ⟨hb.1, rfl⟩
  · have ht' : m.testBit s = false := ht
    rw [ht']
    exact ⟨rfl, rfl⟩
/-- no shop of a set is late, told by how much later the night can start -/
theorem la_sl (hV : V β) (h60 : allF β ≤ 60) (hf : 0 ≤ f ∧ f ≤ 1439) {D : Nat → Nat → Int} {S m : Nat} {du : Nat → Int} (hm : sbP m (srvF β ((Mf (prm β)).1))) : pLa D S (rdC f β ((Mf (prm β)).1) (β 9).toNat) du m = 0 ↔ f ≤ pSl D S (rdC 0 β ((Mf (prm β)).1) (β 9).toNat) du m := by
  unfold pLa pSl
  rw [min_iff, sum_0 _ (fun i hi => by split <;> omega)]
  constructor
  · intro h
    refine ⟨hf.2, fun s hs => ?_⟩
    have hz := h s hs
    by_cases c : m.testBit s = true
    · rw [if_pos c]
      have hd := dp_add hV h60 hf.1 hm ⟨s, hs, c⟩
      rw [hd] at hz
      by_cases d : du s < dpF (rdC 0 β ((Mf (prm β)).1) (β 9).toNat) m + f + arF D S m s
      · rw [if_pos ⟨c, d⟩] at hz
        omega
      · omega
    · rw [if_neg c]
      exact hf.2
  · intro h s hs
    have hz := h.2 s hs
    by_cases c : m.testBit s = true
    · rw [if_pos c] at hz
      have hd := dp_add hV h60 hf.1 hm ⟨s, hs, c⟩
      rw [hd, if_neg]
      intro d
      omega
    · rw [if_neg (fun d => c d.1)]
theorem qla_sl (hV : V β) (h60 : allF β ≤ 60) (hf : 0 ≤ f ∧ f ≤ 1439) (i : Nat) : qLa (PX γ β e f 1439) i = 0 ↔ f ≤ qSl (PX γ β e 0 1439) i := by
  unfold qLa qSl
  rw [min_iff, sum_0 _ (fun v hv => pLa_bd.1)]
  have hg : ∀ v, qG (PX γ β e f 1439) i v = qG (PX γ β e 0 1439) i v := fun v => rfl
  constructor
  · intro h
    exact ⟨hf.2, fun v hv => (la_sl hV h60 hf (qG_sb (P := PX γ β e 0 1439) i v)).mp (h v hv)⟩
  · intro h v hv
    exact (la_sl hV h60 hf (qG_sb (P := PX γ β e 0 1439) i v)).mpr (h.2 v hv)
theorem bsS_iff {fz : Nat → Bool} {sl : Nat → Int} {x : Int} (hx : 0 ≤ x) : ∀ k, x ≤ bsS fz sl k ↔ ∃ i, i < k ∧ fz i = true ∧ x ≤ sl i
  | 0 => ⟨fun h => by have h' : x ≤ -1 := h; omega, fun ⟨i, h, _⟩ => absurd h (Nat.not_lt_zero _)⟩
  | k + 1 => by
    have ih := bsS_iff (fz := fz) (sl := sl) hx k
    rw [bsS]
    by_cases c : fz k = true
    · rw [if_pos c]
      constructor
      · intro h
        by_cases d : x ≤ sl k
        · exact ⟨k, by omega, c, d⟩
        · obtain ⟨i, h1, h2⟩ := ih.mp (by omega)
          exact ⟨i, by omega, h2⟩
      · rintro ⟨i, h1, h2, h3⟩
        by_cases d : i = k
        · rw [d] at h3
          omega
        · have := ih.mpr ⟨i, by omega, h2, h3⟩
          omega
    · rw [if_neg c, ih]
      constructor
      · rintro ⟨i, h1, h2⟩
        exact ⟨i, by omega, h2⟩
      · rintro ⟨i, h1, h2, h3⟩
        refine ⟨i, ?_, h2, h3⟩
        by_cases d : i = k
        · rw [d] at h2
          exact absurd h2 c
        · omega
theorem bsI_spec {fz : Nat → Bool} {la mi : Nat → Int} : ∀ k, (bsI fz la mi k = -1 ∧ ∀ i, i < k → fz i = false) ∨ (∃ j, j < k ∧ bsI fz la mi k = (j : Int) ∧ fz j = true ∧ ∀ i, i < k → fz i = true → la j ≤ la i)
  | 0 => Or.inl ⟨rfl, fun i h => absurd h (Nat.not_lt_zero _)⟩
  | k + 1 => by
    have ih := bsI_spec (fz := fz) (la := la) (mi := mi) k
    rw [bsI]
    rcases ih with ⟨h1, h2⟩ | ⟨j, h1, h2, h3, h4⟩
    · by_cases c : fz k = true
      · rw [if_pos ⟨c, Or.inl h1⟩]
        refine Or.inr ⟨k, by omega, rfl, c, fun i hi hz => ?_⟩
        by_cases d : i = k
        · rw [d]
          exact Int.le_refl _
        · rw [h2 i (by omega)] at hz
          cases hz
      · rw [if_neg (fun z => c z.1)]
        refine Or.inl ⟨h1, fun i hi => ?_⟩
        by_cases d : i = k
        · rw [d]
          exact bfalse c
        · exact h2 i (by omega)
    · rw [h2, tn_cast]
      by_cases c : fz k = true ∧ ((j : Int) = -1 ∨ la k < la j ∨ (la k = la j ∧ mi k < mi j))
      · rw [if_pos c]
        refine Or.inr ⟨k, by omega, rfl, c.1, fun i hi hz => ?_⟩
        by_cases d : i = k
        · rw [d]
          exact Int.le_refl _
        · have := h4 i (by omega) hz
          have c2 := c.2
          omega
      · rw [if_neg c]
        refine Or.inr ⟨j, by omega, rfl, h3, fun i hi hz => ?_⟩
        by_cases d : i = k
        · rw [d] at hz ⊢
          rcases Int.lt_or_le (la k) (la j) with q | q
          · exact absurd ⟨hz, Or.inr (Or.inl q)⟩ c
          · exact q
        · exact h4 i (by omega) hz
theorem ltV_bd (hA : Ag β γ) (hVg : V γ) (hV : V β) (h60 : allF β ≤ 60) (he : e = 0 ∨ e = 1000000) : -1 ≤ ltV γ β e ∧ ltV γ β e ≤ 1439 := by
  have hP := PX_V (z := 1439) (f := 0) hA hVg hV h60 he (by omega) (by omega)
  have h := bsS_bd hP (qW (PX γ β e 0 1439))
  unfold ltV
  split
  · exact h
  · omega
theorem fl_bd (hV : V β) : -1 ≤ flF β f ∧ flF β f ≤ 1000 := by
  have v8 := hV.2.2.2.2.2.2.2.2.1
  have h1 := bcN_le (b7_lt (fun s => exB (β 9).toNat (fun o => mtB β s o && decide (rdyF β ((Mf (prm β)).1) o = -1))))
  have hm : msF β ((Mf (prm β)).1) (β 9).toNat = b7 (fun s => exB (β 9).toNat (fun o => mtB β s o && decide (rdyF β ((Mf (prm β)).1) o = -1))) := rfl
  rw [← hm] at h1
  unfold flF
  split
  · omega
  · have hq : ∀ i, 0 ≤ qLa (PX β β 0 f 1439) i ∧ qLa (PX β β 0 f 1439) i ≤ 7 * (((β 8).toNat : Nat) : Int) := fun i => by
      have := sumTo_bd (n := (β 8).toNat) (f := fun v => pLa (dsF β) (β 6).toNat (rdC f β ((Mf (prm β)).1) (β 9).toNat) (duC 1439 β (β 9).toNat) (qG (PX β β 0 f 1439) i v)) (lo := 0) (hi := 7) (fun v hv => pLa_bd)
      have e : qLa (PX β β 0 f 1439) i = sumTo (β 8).toNat (fun v => pLa (dsF β) (β 6).toNat (rdC f β ((Mf (prm β)).1) (β 9).toNat) (duC 1439 β (β 9).toNat) (qG (PX β β 0 f 1439) i v)) := rfl
      omega
    have := hq (qB (PX β β 0 f 1439)).toNat
    omega
/-- no shop fails in a night that starts at f just when f is not behind the latest start -/
theorem fl_lt (hV : V β) (h60 : allF β ≤ 60) (hf : 0 ≤ f ∧ f ≤ 1439) : (flF β f = 0 ↔ f ≤ ltV β β 0) ∧ (0 ≤ ltV β β 0 → 0 ≤ flF β f) := by
  have hml : msF β ((Mf (prm β)).1) (β 9).toNat < 128 := b7_lt _
  have hsp := bsI_spec (fz := qFz (PX β β 0 f 1439)) (la := qLa (PX β β 0 f 1439)) (mi := qMi (PX β β 0 f 1439)) (qW (PX β β 0 f 1439))
  have hB : qB (PX β β 0 f 1439) = bsI (qFz (PX β β 0 f 1439)) (qLa (PX β β 0 f 1439)) (qMi (PX β β 0 f 1439)) (qW (PX β β 0 f 1439)) := rfl
  have hT : qT (PX β β 0 0 1439) = bsS (qFz (PX β β 0 0 1439)) (qSl (PX β β 0 0 1439)) (qW (PX β β 0 0 1439)) := rfl
  have eW : qW (PX β β 0 f 1439) = qW (PX β β 0 0 1439) := rfl
  have eZ : ∀ i, qFz (PX β β 0 f 1439) i = qFz (PX β β 0 0 1439) i := fun i => rfl
  have hA : ∀ i, 0 ≤ qLa (PX β β 0 f 1439) i := fun i => by
    have := sumTo_le (n := qV (PX β β 0 f 1439)) (f := fun _ => 0) (g := fun v => pLa (qD (PX β β 0 f 1439)) (qS (PX β β 0 f 1439)) (qRd (PX β β 0 f 1439)) (qU (PX β β 0 f 1439)) (qG (PX β β 0 f 1439) i v)) (fun v hv => pLa_bd.1)
    rw [sumTo_zero (fun _ _ => rfl)] at this
    exact this
  rw [← hB] at hsp
  unfold flF ltV
  rcases hsp with ⟨h1, h2⟩ | ⟨j, h1, h2, h3, h4⟩
  · rw [if_pos h1]
    have hlt : ¬ (0 ≤ qT (PX β β 0 0 1439)) := fun z => by
      rw [hT, bsS_iff (by omega)] at z
      obtain ⟨i, i1, i2, i3⟩ := z
      have := h2 i i1
      rw [eZ, i2] at this
      cases this
    refine ⟨⟨fun z => by omega, fun z => ?_⟩, fun z => ?_⟩
    · split at z <;> omega
    · split at z <;> omega
  · rw [h2, if_neg (by omega), tn_cast]
    have hj := hA j
    refine ⟨?_, fun _ => by omega⟩
    constructor
    · intro z
      have z0 : bcN (msF β ((Mf (prm β)).1) (β 9).toNat) = 0 := by omega
      have zl : qLa (PX β β 0 f 1439) j = 0 := by omega
      rw [if_pos (bcN_0 hml z0), hT, bsS_iff hf.1]
      exact ⟨j, h1, h3, (qla_sl hV h60 hf j).mp zl⟩
    · intro z
      by_cases c : msF β ((Mf (prm β)).1) (β 9).toNat = 0
      · rw [if_pos c, hT, bsS_iff hf.1] at z
        obtain ⟨i, i1, i2, i3⟩ := z
        have a := (qla_sl hV h60 hf i).mpr i3
        have b := h4 i i1 i2
        rw [c, show bcN 0 = 0 from rfl]
        omega
      · rw [if_neg c] at z
        omega
/-- a first van that carries any number -/
theorem lt_more (hV : V β) (h60 : allF β ≤ 60) : ltV β β 0 ≤ ltV β β 1000000 := by
  have hA : Ag β β := fun _ _ _ => rfl
  have h1 := ltV_bd (e := 1000000) hA hV hV h60 (Or.inr rfl)
  unfold ltV at h1 ⊢
  by_cases c : msF β ((Mf (prm β)).1) (β 9).toNat = 0
  · rw [if_pos c] at h1
    rw [if_pos c, if_pos c]
    rcases Int.lt_or_le (qT (PX β β 0 0 1439)) 0 with q | q
    · omega
    · have hT : ∀ e, qT (PX β β e 0 1439) = bsS (qFz (PX β β e 0 1439)) (qSl (PX β β e 0 1439)) (qW (PX β β e 0 1439)) := fun e => rfl
      obtain ⟨i, i1, i2, i3⟩ := (bsS_iff q _).mp (Int.le_of_eq (hT 0))
      rw [hT 1000000, bsS_iff q]
      refine ⟨i, i1, ?_, i3⟩
      have i2' := (fzB_iff _).mp i2
      refine (fzB_iff _).mpr (fun v hv => ?_)
      have a := i2' v hv
      have b : vcF β 0 v ≤ vcF β 1000000 v := by
        unfold vcF
        split
        · split <;> omega
        · omega
      exact Int.le_trans a b
  · rw [if_neg c, if_neg c]
    omega
end CLS6
