/-! the class chooses the best plan, finds the latest start -/
section PL8
variable {P : PP} {σ τ : xS} {q b n : Nat}
/-- measured: every part of the served set -/
def MS (σ : xS) (q : Nat) (P : PP) : Prop := ∀ m', sbP m' (qM P) → m' < 128 → DR σ q (qD P) (qS P) (qRd P) (qU P) (qL P) m'
theorem MS_same (h : MS σ q P) (hs : ∀ k j, q + 4 ≤ k → k ≤ q + 7 → τ k j = σ k j) : MS τ q P := fun m' h1 h2 => by
  obtain ⟨g1, g2, g3, g4⟩ := h m' h1 h2
  unfold DR
  rw [hs _ _ (by omega) (by omega), hs _ _ (by omega) (by omega), hs _ _ (by omega) (by omega), hs _ _ (by omega) (by omega)]
  exact ⟨g1, g2, g3, g4⟩
theorem CP_measure (hC : CP σ q b P) (hP : PPV P) (hn : 4000000 ≤ n) : OK (m_X8_measureSets n q b σ) (fun τ => MS τ q P ∧ CP τ q b P ∧ ∀ k j, ¬ (q + 4 ≤ k ∧ k ≤ q + 7) → k ≠ q + 11 → τ k j = σ k j) := by
  have hC' := hC
  obtain ⟨h1, h2, h3, h4, h5, h6, h7⟩ := hC
  refine OK_mono (c_measureSets h1 h2 hP.2.1 hP.1 hP.2.2.1 (by omega) h3 h4 hn) fun τ h => ?_
  exact ⟨h.1, CP_same hC' (fun k j hk => h.2 k j (by omega) (by omega)), h.2⟩
theorem qLa_bd (hP : PPV P) (i : Nat) : 0 ≤ qLa P i ∧ qLa P i ≤ 21 := by
  have h := sumTo_bd (n := qV P) (f := fun v => pLa (qD P) (qS P) (qRd P) (qU P) (qG P i v)) (lo := 0) (hi := 7) (fun v _ => pLa_bd)
  have hV := hP.2.2.2.1
  unfold qLa
  omega
theorem qMi_bd (hP : PPV P) (i : Nat) : 0 ≤ qMi P i ∧ qMi P i ≤ 21000000 := by
  have h := sumTo_bd (n := qV P) (f := fun v => rsF (qD P) (qS P) (qG P i v) 7) (lo := 0) (hi := 7000000) (fun v _ => rsF_bd7 hP.2.1 hP.1 (qG_lt hP i v) (by omega))
  have hV := hP.2.2.2.1
  unfold qMi
  omega
theorem qSl_bd (hP : PPV P) (i : Nat) : -8000000 ≤ qSl P i ∧ qSl P i ≤ 1439 := by
  unfold qSl
  exact ⟨minTo_ge (by omega) _ fun v _ => (pSl_bd hP (qG_lt hP i v)).1, minTo_le _⟩
theorem bsS_bd (hP : PPV P) : ∀ i, -1 ≤ bsS (qFz P) (qSl P) i ∧ bsS (qFz P) (qSl P) i ≤ 1439
  | 0 => ⟨Int.le_refl _, by show (-1 : Int) ≤ 1439; omega⟩
  | i + 1 => by
    have ih := bsS_bd hP i
    have h := qSl_bd hP i
    rw [bsS]
    split <;> omega
theorem qA_lt (i s : Nat) : qA P i s < v1 (qV P) := asA_lt (v1_pos _) i s
/-- the best found: what the class notes of it -/
def BC (σ : xS) (q : Nat) (P : PP) (B : Int) : Prop := σ q 11 = (if B = -1 then 0 else 1) ∧ (B ≠ -1 → σ q 12 = qLa P B.toNat ∧ ∀ v, v < 3 → σ (q + 10) v = (qG P B.toNat v : Int))
theorem c_chooseLoop (hC : CP σ q b P) (hM : MS σ q P) (hP : PPV P) (hA : AW σ q (qM P) (qA P 0)) (h0 : σ q 11 = 0) (hn : 4000000 ≤ n) {Q : xS → Prop} {fin : Int × Int × xS → Option xS}
    (hfin : ∀ t : Int × Int × xS, BC t.2.2 q P (qB P) → CP t.2.2 q b P → (∀ k j, ¬ (q + 8 ≤ k ∧ k ≤ q + 10) → ¬ (k = q ∧ (j = 11 ∨ j = 12)) → t.2.2 k j = σ k j) → OK (fin t) Q) :
    OK (loopF (fun rec6 (t5 : Int × Int × xS) => if (zI (qW P : Int)) ≤ (zI t5.2.1) then fin t5 else (m_X8_canCarry n q b t5.2.2).bind fun v19 => xj (fun (q22 : Int × xS) => (m_X8_nextWay n q b q22.2).bind fun s23 => xlet (t5.2.1 + 1) fun v24 => rec6 (q22.1, v24, s23)) fun J20 => if (zI v19) = 0 then J20 (t5.1, t5.2.2) else loopF (fun rec27 (t26 : Int × Int × Int) => if (zI (t5.2.2 b 11)) ≤ (zI t26.2.2) then xj (fun (q33 : Unit) => xlet (xput t5.2.2 q 11 1) fun s34 => xlet (xput s34 q 12 t26.1) fun s35 => xcc 0 0 3 3 3 <| xlet (xcpy s35 (q + 8) (q + 10) 0 0 3) fun s36 => J20 (t26.2.1, s36)) fun J31 => if (zI (t5.2.2 q 11)) = 0 then J31 () else if (zI t26.1) < (zI (t5.2.2 q 12)) then J31 () else if (zI t26.1) = (zI (t5.2.2 q 12)) then if (zI t5.1) ≤ (zI t26.2.1) then J20 (t5.1, t5.2.2) else J31 () else J20 (t5.1, t5.2.2) else xck (zI t26.2.2) 3 <| xck (zI (t5.2.2 (q + 8) (zI t26.2.2).toNat)) 128 <| xlet (t26.1 + (t5.2.2 (q + 5) (zI (t5.2.2 (q + 8) (zI t26.2.2).toNat)).toNat)) fun v41 => xck (zI t26.2.2) 3 <| xck (zI (t5.2.2 (q + 8) (zI t26.2.2).toNat)) 128 <| xlet (t26.2.1 + (t5.2.2 (q + 6) (zI (t5.2.2 (q + 8) (zI t26.2.2).toNat)).toNat)) fun v42 => xlet (t26.2.2 + 1) fun v43 => rec27 (v41, v42, v43)) n (0, 0, 0)) n (0, 0, σ)) Q := by
  have hW := qW_le hP
  have hV := hP.2.2.2.1
  refine loop_for (qW P) (fun i (t : Int × Int × xS) => t.2.1 = (i : Int) ∧ AW t.2.2 q (qM P) (qA P i) ∧ BC t.2.2 q P (bsI (qFz P) (qLa P) (qMi P) i) ∧ (bsI (qFz P) (qLa P) (qMi P) i ≠ -1 → t.1 = qMi P (bsI (qFz P) (qLa P) (qMi P) i).toNat) ∧ (0 ≤ t.1 ∧ t.1 ≤ 21000000) ∧ (∀ k j, ¬ (q + 8 ≤ k ∧ k ≤ q + 10) → ¬ (k = q ∧ (j = 11 ∨ j = 12)) → t.2.2 k j = σ k j)) ?_ ?_ (by omega) ⟨rfl, hA, ⟨h0, fun h => absurd rfl h⟩, fun h => absurd rfl h, (show (0 : Int) ≤ 0 ∧ (0 : Int) ≤ 21000000 by omega), fun _ _ _ _ => rfl⟩
  · rintro i ⟨least, u, τ⟩ hi ⟨h1, h2, h3, h4, h5, h6⟩ rec hrec
    try dsimp only at h1 h2 h3 h4 h5 h6 hrec ⊢
    subst h1
    obtain ⟨hv1, hi2⟩ := qW_v hP hi
    have hCt : CP τ q b P := CP_same hC (fun k j hk => h6 k j (by omega) (by omega))
    have hMt : MS τ q P := MS_same hM (fun k j c1 c2 => h6 k j (by omega) (by omega))
    have hnext : ∀ (w : Int) (s : xS), AW s q (qM P) (qA P i) → BC s q P (bsI (qFz P) (qLa P) (qMi P) (i + 1)) → (bsI (qFz P) (qLa P) (qMi P) (i + 1) ≠ -1 → w = qMi P (bsI (qFz P) (qLa P) (qMi P) (i + 1)).toNat) → (0 ≤ w ∧ w ≤ 21000000) → (∀ k j, ¬ (q + 8 ≤ k ∧ k ≤ q + 10) → ¬ (k = q ∧ (j = 11 ∨ j = 12)) → s k j = σ k j) → OK ((m_X8_nextWay n q b s).bind fun s23 => xlet ((i : Int) + 1) fun v24 => rec (w, v24, s23)) Q := fun w s a1 a2 a3 a4 a5 => by
      have e3 : s q 3 = (qM P : Int) := by rw [a5 _ _ (by omega) (by omega)]; exact hC.2.2.2.1
      have e11 : qM P = 0 ∨ s b 11 = (v1 (qV P) : Int) := by
        rcases hv1 with z | z
        · exact Or.inl z
        · right
          rw [z, a5 _ _ (by have := hC.2.2.2.2.2.2; omega) (by have := hC.2.2.2.2.2.2; omega)]
          exact hC.2.2.2.2.1
      refine OK_bind (c_nextWay e3 (PP_m hP) ⟨v1_pos _, v1_le hV⟩ e11 (by have := hC.2.2.2.2.2.2; omega) a1 (qA_lt i) hn) (fun s2 h => ?_)
      obtain ⟨g1, g2⟩ := h
      rw [xlet_eq]
      refine hrec _ ⟨by (try dsimp only); omega, g1, ⟨?_, fun z => ?_⟩, a3, a4, fun k j c1 c2 => ?_⟩
      · dsimp only
        rw [g2 _ _ (by omega) (by omega)]
        exact a2.1
      · dsimp only
        obtain ⟨y1, y2⟩ := a2.2 z
        refine ⟨?_, fun v hv => ?_⟩
        · rw [g2 _ _ (by omega) (by omega)]
          exact y1
        · rw [g2 _ _ (by omega) (by omega)]
          exact y2 v hv
      · dsimp only
        rw [g2 _ _ (by omega) (by omega)]
        exact a5 k j c1 c2
    have hcc := c_canCarry (P := P) hCt hP h2 hMt hn
    rw [zI_of (n := (qW P : Int)) (by omega) (by omega), zI_of (n := (i : Int)) (by omega) (by omega), if_neg (by omega), hcc, bind_some', xj_eq]
    have hbs : bsI (qFz P) (qLa P) (qMi P) (i + 1) = if qFz P i = true ∧ (bsI (qFz P) (qLa P) (qMi P) i = -1 ∨ qLa P i < qLa P (bsI (qFz P) (qLa P) (qMi P) i).toNat ∨ (qLa P i = qLa P (bsI (qFz P) (qLa P) (qMi P) i).toNat ∧ qMi P i < qMi P (bsI (qFz P) (qLa P) (qMi P) i).toNat)) then (i : Int) else bsI (qFz P) (qLa P) (qMi P) i := rfl
    have hbd := bsI_bd (qFz P) (qLa P) (qMi P) i
    generalize hBB : bsI (qFz P) (qLa P) (qMi P) i = B at h3 h4 hbs hbd
    have hstay : bsI (qFz P) (qLa P) (qMi P) (i + 1) = B → OK ((m_X8_nextWay n q b τ).bind fun s23 => xlet ((i : Int) + 1) fun v24 => rec (least, v24, s23)) Q := fun e => hnext least τ h2 (by rw [e]; exact h3) (by rw [e]; exact h4) h5 h6
    by_cases c : qFz P i = true
    · rw [if_pos c, zI_of (by omega) (by omega), if_neg (by omega)]
      have hla := qLa_bd hP i
      have hmi := qMi_bd hP i
      have e11 : τ b 11 = (qV P : Int) := hCt.2.2.2.2.1
      refine loop_for (qV P) (fun k (t : Int × Int × Int) => t = (sumTo k (fun v => pLa (qD P) (qS P) (qRd P) (qU P) (qG P i v)), sumTo k (fun v => rsF (qD P) (qS P) (qG P i v) 7), (k : Int))) ?_ ?_ (by omega) rfl
      · rintro k t hk rfl rec2 hrec2
        have hg := qG_128 (P := P) i k
        have e8 : τ (q + 8) k = (qG P i k : Int) := h2.1 k (by omega)
        obtain ⟨d1, d2, d3, d4⟩ := hMt (qG P i k) (qG_sb i k) hg
        try dsimp only
        simp only [e11]
        rw [zI_of (n := (qV P : Int)) (by omega) (by omega), zI_of (n := (k : Int)) (by omega) (by omega), if_neg (by omega), xck_of (by omega) (by omega)]
        simp (disch := omega) only [tn_cast, e8, zI_of (n := (qG P i k : Int)), xck_of, d2, d3, xlet_eq]
        exact hrec2 _ rfl
      · rintro t rfl rec2
        try dsimp only
        simp only [e11]
        have hl2 : sumTo (qV P) (fun v => pLa (qD P) (qS P) (qRd P) (qU P) (qG P i v)) = qLa P i := rfl
        have hm2 : sumTo (qV P) (fun v => rsF (qD P) (qS P) (qG P i v) 7) = qMi P i := rfl
        rw [if_pos (Int.le_refl _), xj_eq, hl2, hm2, zI_of (n := qLa P i) (by omega) (by omega), zI_of (n := qMi P i) (by omega) (by omega), zI_of (n := least) (by omega) (by omega)]
        have hgo : bsI (qFz P) (qLa P) (qMi P) (i + 1) = (i : Int) → OK ((fun (_ : Unit) => xlet (xput τ q 11 1) fun s34 => xlet (xput s34 q 12 (qLa P i)) fun s35 => xcc 0 0 3 3 3 <| xlet (xcpy s35 (q + 8) (q + 10) 0 0 3) fun s36 => (m_X8_nextWay n q b s36).bind fun s23 => xlet ((i : Int) + 1) fun v24 => rec (qMi P i, v24, s23)) ()) Q := fun e => by
          show OK (xcc 0 0 3 3 3 ((m_X8_nextWay n q b (xcpy (xput (xput τ q 11 1) q 12 (qLa P i)) (q + 8) (q + 10) 0 0 3)).bind fun s23 => xlet ((i : Int) + 1) fun v24 => rec (qMi P i, v24, s23))) Q
          rw [xcc_of (by omega) (by omega) (by omega) (by omega) (by omega)]
          have cpy1 : ∀ k j, k ≠ q + 10 → (xcpy (xput (xput τ q 11 1) q 12 (qLa P i)) (q + 8) (q + 10) 0 0 3) k j = (xput (xput τ q 11 1) q 12 (qLa P i)) k j := fun k j hk => if_neg hk
          have cpy2 : ∀ v, v < 3 → (xcpy (xput (xput τ q 11 1) q 12 (qLa P i)) (q + 8) (q + 10) 0 0 3) (q + 10) v = τ (q + 8) v := fun v hv => by
            have : (xcpy (xput (xput τ q 11 1) q 12 (qLa P i)) (q + 8) (q + 10) 0 0 3) (q + 10) v = (xput (xput τ q 11 1) q 12 (qLa P i)) (q + 8) v := by
              have h3 : v = 0 ∨ v = 1 ∨ v = 2 := by omega
              unfold xcpy
              rw [if_pos rfl]
              rcases h3 with rfl | rfl | rfl <;> rfl
            rw [this, xput_ne (by omega), xput_ne (by omega)]
          refine hnext _ _ ⟨fun v hv => ?_, fun s hs => ?_⟩ ⟨?_, fun _ => ⟨?_, fun v hv => ?_⟩⟩ (fun _ => by rw [e, tn_cast]) hmi (fun k j c1 c2 => ?_)
          · rw [cpy1 _ _ (by omega), xput_ne (by omega), xput_ne (by omega)]
            exact h2.1 v hv
          · rw [cpy1 _ _ (by omega), xput_ne (by omega), xput_ne (by omega)]
            exact h2.2 s hs
          · rw [cpy1 _ _ (by omega), xput_ne (by omega), xput_eq, e, if_neg (by omega)]
          · rw [cpy1 _ _ (by omega), xput_eq, e, tn_cast]
          · rw [cpy2 v hv, e, tn_cast]
            exact h2.1 v hv
          · rw [cpy1 _ _ (by omega), xput_ne (by omega), xput_ne (by omega)]
            exact h6 k j c1 c2
        by_cases cB : B = -1
        · have e0 : τ q 11 = 0 := by rw [h3.1, if_pos cB]
          simp only [e0]
          rw [zI_of (n := 0) (by omega) (by omega), if_pos rfl]
          exact hgo (by rw [hbs, if_pos ⟨c, Or.inl cB⟩])
        · have e0 : τ q 11 = 1 := by rw [h3.1, if_neg cB]
          have e12 := (h3.2 cB).1
          have hlB := qLa_bd hP B.toNat
          have hmB := h4 cB
          simp only [e0, e12]
          rw [zI_of (n := 1) (by omega) (by omega), if_neg (by omega), zI_of (n := qLa P B.toNat) (by omega) (by omega)]
          by_cases c1 : qLa P i < qLa P B.toNat
          · rw [if_pos c1]
            exact hgo (by rw [hbs, if_pos ⟨c, Or.inr (Or.inl c1)⟩])
          · rw [if_neg c1]
            by_cases c2 : qLa P i = qLa P B.toNat
            · rw [if_pos c2]
              by_cases c3 : least ≤ qMi P i
              · rw [if_pos c3]
                exact hstay (by rw [hbs, if_neg (by omega)])
              · rw [if_neg c3]
                exact hgo (by rw [hbs, if_pos ⟨c, Or.inr (Or.inr ⟨c2, by omega⟩)⟩])
            · rw [if_neg c2]
              exact hstay (by rw [hbs, if_neg (by omega)])
    · rw [if_neg c, zI_of (by omega) (by omega), if_pos rfl]
      exact hstay (by rw [hbs, if_neg (fun h => c h.1)])
  · rintro ⟨least, u, τ⟩ ⟨h1, h2, h3, h4, h5, h6⟩ rec
    try dsimp only at h1 h2 h3 h4 h5 h6 ⊢
    subst h1
    rw [zI_of (n := (qW P : Int)) (by omega) (by omega), if_pos (Int.le_refl _)]
    exact hfin _ h3 (CP_same hC (fun k j hk => h6 k j (by omega) (by omega))) h6
end PL8
