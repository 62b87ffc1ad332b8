/-! the class's best plan, its latest start: whole -/
section PL9
variable {P : PP} {σ τ : xS} {q b n : Nat}
/-- the best plan as the class holds it -/
def BP (σ : xS) (q : Nat) (P : PP) : Prop := BC σ q P (qB P) ∧ (qB P ≠ -1 → ∀ v, v < qV P → ∀ s, s < 7 → (qG P (qB P).toNat v).testBit s = true → σ (q + 11) s = dpF (qRd P) (qG P (qB P).toNat v) + arF (qD P) (qS P) (qG P (qB P).toNat v) s)
/-- what choosing leaves alone -/
def pfr (q : Nat) (σ τ : xS) : Prop := ∀ k j, (k < q ∨ (q + 1 ≤ k ∧ k ≤ q + 3) ∨ q + 12 ≤ k ∨ (k = q ∧ j ≠ 11 ∧ j ≠ 12)) → τ k j = σ k j
theorem c_choose (hC : CP σ q b P) (hP : PPV P) (hn : 4000000 ≤ n) : OK (m_X8_choose n q b σ) (fun τ => BP τ q P ∧ pfr q σ τ) := by
  have hV := hP.2.2.2.1
  have hbq := hC.2.2.2.2.2.2
  unfold m_X8_choose
  rw [xlet_eq]
  have hC1 : CP (xput σ q 11 0) q b P := CP_same hC (fun k j hk => xput_ne (by omega))
  have hf1 : ∀ k j, ¬ (k = q ∧ j = 11) → (xput σ q 11 0) k j = σ k j := fun k j h => xput_ne h
  have h11 : (xput σ q 11 0) q 11 = 0 := xput_eq
  generalize xput σ q 11 0 = s1 at hC1 hf1 h11 ⊢
  refine OK_bind (CP_measure hC1 hP hn) (fun s2 h => ?_)
  obtain ⟨hM2, hC2, hf2⟩ := h
  refine OK_xbS (c_firstWay hC2 hP hn) (fun v s3 h => ?_)
  obtain ⟨hv, hA3, hf3⟩ := h
  dsimp only at hv hA3 hf3
  subst hv
  have hC3 : CP s3 q b P := CP_same hC2 (fun k j hk => hf3 k j (by omega) (by omega))
  have hM3 : MS s3 q P := MS_same hM2 (fun k j c1 c2 => hf3 k j (by omega) (by omega))
  refine c_chooseLoop hC3 hM3 hP hA3 (by rw [hf3 _ _ (by omega) (by omega), hf2 _ _ (by omega) (by omega)]; exact h11) hn (Q := fun τ => BP τ q P ∧ pfr q σ τ) (fin := fun t5 => loopF (fun rec10 (t9 : Int × xS) => xj (fun (q14 : Unit) => some t9.2) fun J12 => if (zI (t9.2 b 11)) ≤ (zI t9.1) then J12 () else if (zI (t9.2 q 11)) = 0 then J12 () else xck (zI t9.1) 3 <| (m_X8_drive n q (b + 39) (t9.2 (q + 10) (zI t9.1).toNat) t9.2).bind fun s17 => xlet (t9.1 + 1) fun v18 => rec10 (v18, s17)) n (0, t5.2.2)) ?_
  rintro ⟨w1, w2, s4⟩ hBC hC4 hf4
  dsimp only at hBC hC4 hf4 ⊢
  have hall : ∀ k j, (k < q ∨ (q + 1 ≤ k ∧ k ≤ q + 3) ∨ q + 12 ≤ k ∨ (k = q ∧ j ≠ 11 ∧ j ≠ 12)) → s4 k j = σ k j := fun k j h => by
    rw [hf4 _ _ (by omega) (by omega), hf3 _ _ (by omega) (by omega), hf2 _ _ (by omega) (by omega), hf1 _ _ (by omega)]
  by_cases cB : qB P = -1
  · -- no plan
    have e0 : s4 q 11 = 0 := by rw [hBC.1, if_pos cB]
    refine loop_for 0 (fun i (t : Int × xS) => t = (0, s4)) (fun i t hi => absurd hi (Nat.not_lt_zero _)) ?_ (by omega) rfl
    rintro t rfl rec
    try dsimp only
    rw [xj_eq]
    simp only [e0]
    have hok : OK (some s4) (fun τ => BP τ q P ∧ pfr q σ τ) := OK_some ⟨⟨hBC, fun h => absurd cB h⟩, hall⟩
    split
    · exact hok
    · rw [zI_of (n := 0) (by omega) (by omega), if_pos rfl]
      exact hok
  · have e0 : s4 q 11 = 1 := by rw [hBC.1, if_neg cB]
    have e10 := (hBC.2 cB).2
    refine loop_for (qV P) (fun i (t : Int × xS) => t.1 = (i : Int) ∧ CP t.2 q b P ∧ (∀ v, v < i → ∀ s, s < 7 → (qG P (qB P).toNat v).testBit s = true → t.2 (q + 11) s = dpF (qRd P) (qG P (qB P).toNat v) + arF (qD P) (qS P) (qG P (qB P).toNat v) s) ∧ (∀ k j, ¬ (q + 4 ≤ k ∧ k ≤ q + 7) → k ≠ q + 11 → t.2 k j = s4 k j)) ?_ ?_ (by omega) ⟨rfl, hC4, fun v hv => absurd hv (Nat.not_lt_zero _), fun _ _ _ _ => rfl⟩
    · rintro i ⟨u, t⟩ hi ⟨g1, g2, g3, g4⟩ rec hrec
      dsimp only at g1 g2 g3 g4 hrec ⊢
      subst g1
      have e11 : t b 11 = (qV P : Int) := g2.2.2.2.2.1
      have eq11 : t q 11 = 1 := by rw [g4 _ _ (by omega) (by omega)]; exact e0
      have eq10 : t (q + 10) i = (qG P (qB P).toNat i : Int) := by rw [g4 _ _ (by omega) (by omega)]; exact e10 i (by omega)
      rw [xj_eq]
      simp only [e11, eq11]
      rw [zI_of (n := (qV P : Int)) (by omega) (by omega), zI_of (n := (i : Int)) (by omega) (by omega), if_neg (by omega), zI_of (n := 1) (by omega) (by omega), if_neg (by omega), xck_of (by omega) (by omega), tn_cast, eq10]
      refine OK_bind (c_drive (rd := qRd P) (du := qU P) (ld := qL P) g2.1 g2.2.1 hP.2.1 hP.1 (m := qG P (qB P).toNat i) (qG_lt hP _ _) (by omega) g2.2.2.1 hn) (fun t2 h => ?_)
      obtain ⟨-, d2, d3⟩ := h
      rw [xlet_eq]
      refine hrec _ ⟨by (try dsimp only); omega, CP_same g2 (fun k j hk => d3 k j (by omega) (by omega)), fun v hv s hs t1 => ?_, fun k j c1 c2 => ?_⟩
      · dsimp only
        by_cases c : v = i
        · subst c
          exact d2 s hs t1
        · have hne : ¬ ((q + 11 : Nat) = q + 11 ∧ s < 7 ∧ (qG P (qB P).toNat i).testBit s = true) := fun z => by
            have z2 := z.2.2
            unfold qG at t1 z2
            rw [sgA_bit hs, Bool.and_eq_true, decide_eq_true_eq] at t1 z2
            exact c (t1.2.symm.trans z2.2)
          rw [d3 _ _ (by omega) hne]
          exact g3 v (by omega) s hs t1
      · dsimp only
        rw [d3 _ _ (by omega) (by omega)]
        exact g4 k j c1 c2
    · rintro ⟨u, t⟩ ⟨g1, g2, g3, g4⟩ rec
      dsimp only at g1 g2 g3 g4 ⊢
      subst g1
      have e11 : t b 11 = (qV P : Int) := g2.2.2.2.2.1
      rw [xj_eq]
      simp only [e11]
      rw [if_pos (Int.le_refl _)]
      refine OK_some ⟨⟨⟨?_, fun z => ⟨?_, fun v hv => ?_⟩⟩, fun _ => g3⟩, fun k j h => ?_⟩
      · rw [g4 _ _ (by omega) (by omega)]
        exact hBC.1
      · rw [g4 _ _ (by omega) (by omega)]
        exact (hBC.2 z).1
      · rw [g4 _ _ (by omega) (by omega)]
        exact (hBC.2 z).2 v hv
      · rw [g4 _ _ (by omega) (by omega)]
        exact hall k j h
theorem c_latest (hC : CP σ q b P) (hP : PPV P) {w : Nat} (hw : w < 128) (h4 : σ q 4 = (w : Int)) (hn : 4000000 ≤ n) : OK (m_X8_latest n q b σ) (fun x => x.1 = (if w = 0 then qT P else -1) ∧ ∀ k j, ¬ (q + 4 ≤ k ∧ k ≤ q + 11) → x.2 k j = σ k j) := by
  have hV := hP.2.2.2.1
  have hbq := hC.2.2.2.2.2.2
  have hW := qW_le hP
  unfold m_X8_latest
  simp only [h4]
  rw [zI_of (n := (w : Int)) (by omega) (by omega)]
  by_cases cw : w = 0
  · rw [if_pos (by omega), if_pos cw, xlet_eq]
    refine OK_bind (CP_measure hC hP hn) (fun s2 h => ?_)
    obtain ⟨hM2, hC2, hf2⟩ := h
    refine OK_xbS (c_firstWay hC2 hP hn) (fun v s3 h => ?_)
    obtain ⟨hv, hA3, hf3⟩ := h
    dsimp only at hv hA3 hf3
    subst hv
    have hC3 : CP s3 q b P := CP_same hC2 (fun k j hk => hf3 k j (by omega) (by omega))
    have hM3 : MS s3 q P := MS_same hM2 (fun k j c1 c2 => hf3 k j (by omega) (by omega))
    refine loop_for (qW P) (fun i (t : Int × Int × xS) => t.1 = bsS (qFz P) (qSl P) i ∧ t.2.1 = (i : Int) ∧ AW t.2.2 q (qM P) (qA P i) ∧ (∀ k j, k ≠ q + 8 → k ≠ q + 9 → t.2.2 k j = s3 k j)) ?_ ?_ (by omega) ⟨rfl, rfl, hA3, fun _ _ _ _ => rfl⟩
    · rintro i ⟨x, u, t⟩ hi ⟨g0, g1, g2, g3⟩ rec hrec
      dsimp only at g0 g1 g2 g3 hrec ⊢
      subst g0 g1
      obtain ⟨hv1, hi2⟩ := qW_v hP hi
      have hCt : CP t q b P := CP_same hC3 (fun k j hk => g3 k j (by omega) (by omega))
      have hMt : MS t q P := MS_same hM3 (fun k j c1 c2 => g3 k j (by omega) (by omega))
      have hcc := c_canCarry (P := P) hCt hP g2 hMt hn
      have e3 : t q 3 = (qM P : Int) := hCt.2.2.2.1
      have e11 : t b 11 = (qV P : Int) := hCt.2.2.2.2.1
      have hb := bsS_bd hP i
      have hbs : bsS (qFz P) (qSl P) (i + 1) = if qFz P i = true then max (bsS (qFz P) (qSl P) i) (qSl P i) else bsS (qFz P) (qSl P) i := rfl
      have hnext : ∀ w' : Int, w' = bsS (qFz P) (qSl P) (i + 1) → OK ((m_X8_nextWay n q b t).bind fun s14 => xlet ((i : Int) + 1) fun v15 => rec (w', v15, s14)) (fun x => x.1 = qT P ∧ ∀ k j, ¬ (q + 4 ≤ k ∧ k ≤ q + 11) → x.2 k j = σ k j) := fun w' hw' => by
        have e11' : qM P = 0 ∨ t b 11 = (v1 (qV P) : Int) := by
          rcases hv1 with z | z
          · exact Or.inl z
          · right
            rw [z]
            exact e11
        refine OK_bind (c_nextWay e3 (PP_m hP) ⟨v1_pos _, v1_le hV⟩ e11' (by omega) g2 (qA_lt i) hn) (fun s2 h => ?_)
        obtain ⟨y1, y2⟩ := h
        rw [xlet_eq]
        refine hrec _ ⟨hw', by (try dsimp only); omega, y1, fun k j c1 c2 => ?_⟩
        dsimp only
        rw [y2 _ _ c1 c2]
        exact g3 k j c1 c2
      rw [zI_of (n := (qW P : Int)) (by omega) (by omega), zI_of (n := (i : Int)) (by omega) (by omega), if_neg (by omega), hcc, bind_some', xj_eq]
      by_cases c : qFz P i = true
      · rw [if_pos c, zI_of (by omega) (by omega), if_neg (by omega)]
        have hsl := qSl_bd hP i
        refine loop_for (qV P) (fun k (y : Int × Int) => y = (minTo 1439 k (fun v => pSl (qD P) (qS P) (qRd P) (qU P) (qG P i v)), (k : Int))) ?_ ?_ (by omega) rfl
        · rintro k y hk rfl rec2 hrec2
          have hg := qG_128 (P := P) i k
          have e8 : t (q + 8) k = (qG P i k : Int) := g2.1 k (by omega)
          obtain ⟨d1, d2, d3, d4⟩ := hMt (qG P i k) (qG_sb i k) hg
          have hb1 := pSl_bd hP (qG_lt hP i k)
          have hb2 : -8000000 ≤ minTo 1439 k (fun v => pSl (qD P) (qS P) (qRd P) (qU P) (qG P i v)) ∧ minTo 1439 k (fun v => pSl (qD P) (qS P) (qRd P) (qU P) (qG P i v)) ≤ 1439 := ⟨minTo_ge (by omega) _ fun v _ => (pSl_bd hP (qG_lt hP i v)).1, minTo_le _⟩
          try dsimp only
          simp only [e11]
          rw [zI_of (n := (qV P : Int)) (by omega) (by omega), zI_of (n := (k : Int)) (by omega) (by omega), if_neg (by omega), xck_of (by omega) (by omega)]
          simp (disch := omega) only [tn_cast, e8, zI_of (n := (qG P i k : Int)), xck_of, d4, xlet_eq, zmin_of]
          exact hrec2 _ rfl
        · rintro y rfl rec2
          try dsimp only
          simp only [e11]
          have hl2 : minTo 1439 (qV P) (fun v => pSl (qD P) (qS P) (qRd P) (qU P) (qG P i v)) = qSl P i := rfl
          rw [if_pos (Int.le_refl _), hl2, zmax_of (by omega) (by omega) (by omega) (by omega), xlet_eq]
          exact hnext _ (by rw [hbs, if_pos c])
      · rw [if_neg c, zI_of (by omega) (by omega), if_pos rfl]
        exact hnext _ (by rw [hbs, if_neg c])
    · rintro ⟨x, u, t⟩ ⟨g0, g1, g2, g3⟩ rec
      dsimp only at g0 g1 g2 g3 ⊢
      subst g0 g1
      rw [if_pos (Int.le_refl _)]
      refine OK_some ⟨rfl, fun k j h => ?_⟩
      dsimp only
      rw [g3 _ _ (by omega) (by omega), hf3 _ _ (by omega) (by omega)]
      exact hf2 k j (by omega) (by omega)
  · rw [if_neg (by omega), if_neg cw]
    exact OK_some ⟨rfl, fun _ _ _ => rfl⟩
end PL9
