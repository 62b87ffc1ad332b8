/-! calls: simulate, the buffer, the errors -/
section TOP5
variable {σ τ s x y y0 : xS} {n m b L : Nat} {β γ δ : Nat → Int} {B : Nat → Nat → Int} {p q : Int}
theorem q_simulateT (h : TJ σ β L m B) (hn : 4000000 ≤ n) (h1 : -2147483648 ≤ p) (h2 : p < 2147483648) : CALL (m_X12_simulate n p σ) (m_X13_simulate n p) := by
  have h' := h
  obtain ⟨⟨hNT, tR, tP, t50⟩, h0β, -⟩ := h
  have hNT' := hNT
  obtain ⟨tB, tβ, tV, tN⟩ := hNT
  have hb := bk_two (σ 0 3)
  have hall := allF_bd tV
  have k5 : ∀ t : xS, (xput t 184 7 0) 185 = t 185 := fun t => xput_ne1 (by omega)
  by_cases c : 0 ≤ p ∧ p ≤ 1439
  · by_cases c60 : allF β ≤ 60
    · obtain ⟨v, σ1, e1, e2, e3, e4, e5⟩ := q_simulate hNT' hn h1 h2
      have e9 : σ1 0 9 = 0 := by
        unfold m_X12_simulate at e1
        rw [c_batchCount tB tV hn, bind_some', zI_of h1 h2, xj_eq, if_neg (by omega), if_pos c.2, if_pos c60, zI_of (n := allF β) (by omega) (by omega), if_neg (by omega)] at e1
        cases hr : m_X4_run n 118 (bkA (σ 0 3)) p σ with
        | none =>
          rw [hr] at e1
          cases e1
        | some s9 =>
          rw [hr, bind_some', xlet_eq, xlet_eq] at e1
          have e := congrArg Prod.snd (Option.some.inj e1)
          dsimp only at e
          rw [← e]
          exact xput_eq
      have s185 : σ1 185 = β := by
        funext j
        rw [e2 _ _ (by omega), tβ]
      rw [e1]
      refine OK_some ⟨⟨e3, e4⟩, ?_⟩
      obtain ⟨z, hz, g1, g2, g3, g4⟩ := e5
      have z9 : z.2 0 9 = 0 := by
        unfold m_X13_simulate at hz
        have ha := r_allBatches (σ := xput σ1 184 7 0) (k := 185) (n := n) (by rw [k5, s185]; exact tV) hn
        rw [k5, s185] at ha
        rw [xlet_eq, isIn_i h1 h2 (by omega) (by omega) (by omega) (by omega), if_pos c, if_neg (by omega), ha, bind_some', zI_of (by omega) (by omega), if_pos c60, xlet_eq, xlet_eq] at hz
        obtain ⟨t, ht, k1, k2⟩ := r_simulates (σ := xput (xput (xput σ1 184 7 0) 184 5 1) 184 6 p) (k := 185) (β := β) (n := n) (by omega) (by rw [xput_ne1 (by omega), xput_ne1 (by omega), k5]; exact s185) tV c60 hn
        rw [ht, bind_some'] at hz
        have e := congrArg Prod.snd (Option.some.inj hz)
        dsimp only at e
        rw [← e, k2 _ _ (by omega), xput_ne (by omega), xput_ne (by omega), xput_ne (by omega)]
        exact e9
      dsimp only
      refine ⟨z, hz, g1, β, L, m, B, ?_⟩
      have e03 : z.2 0 3 = σ 0 3 := g4 _ _ (by omega) (by omega) (by omega)
      refine TJ_keep h' ⟨g3, ?_, fun _ => Or.inl z9, by rw [g4 _ _ (by omega) (by omega) (by omega)]; exact t50⟩ (fun a j hj => g4 a j (by omega) (by omega) (by omega))
      rw [e03]
      exact RD_same tR (fun a j c1 c2 => g4 a j (by omega) (by omega) (by omega))
    · have : m_X12_simulate n p σ = some (-3, σ) := by
        unfold m_X12_simulate
        rw [c_batchCount tB tV hn, bind_some', zI_of h1 h2, xj_eq, if_neg (by omega), if_pos c.2, if_neg c60, zI_of (n := -3) (by omega) (by omega), if_pos rfl]
      rw [this]
      refine CALL_no h' (by omega) (by omega) ?_
      unfold m_X13_simulate
      have ha := r_allBatches (σ := xput σ 184 7 0) (k := 185) (n := n) (by rw [k5, tβ]; exact tV) hn
      rw [k5, tβ] at ha
      rw [xlet_eq, isIn_i h1 h2 (by omega) (by omega) (by omega) (by omega), if_pos c, if_neg (by omega), ha, bind_some', zI_of (by omega) (by omega), if_neg c60]
  · have : m_X12_simulate n p σ = some (-1, σ) := by
      unfold m_X12_simulate
      rw [xj_eq, zI_of h1 h2]
      by_cases d : p < 0
      · rw [if_pos d]
      · rw [if_neg d, if_neg (by omega)]
    rw [this]
    refine CALL_no h' (by omega) (by omega) ?_
    unfold m_X13_simulate
    rw [xlet_eq, isIn_i h1 h2 (by omega) (by omega) (by omega) (by omega), if_neg c, if_pos rfl]
/-- what bakery, night, roads and plan rest on -/
theorem TP_fr (h : TP σ β) (hs : ∀ a j, ((bkA (σ 0 3) ≤ a ∧ a < bkA (σ 0 3) + 54) ∨ (118 ≤ a ∧ a ≤ 150) ∨ a = 185 ∨ (a = 0 ∧ (j = 3 ∨ j = 8 ∨ j = 9)) ∨ (a = 184 ∧ (j = 5 ∨ j = 6 ∨ j = 50))) → τ a j = σ a j) : TP τ β := by
  obtain ⟨⟨n1, n2, n3, n4⟩, h2, h3, h4⟩ := h
  have hb := bk_two (σ 0 3)
  have e3 : τ 0 3 = σ 0 3 := hs _ _ (by omega)
  refine ⟨⟨?_, by rw [← n2]; funext j; exact hs _ _ (by omega), n3, ?_⟩, ?_, ?_, by rw [hs _ _ (by omega)]; exact h4⟩
  · rw [e3]
    exact Bk_same n1 n3 (fun k j a d => hs k j (by omega))
  · rw [hs 0 8 (by omega), hs 184 5 (by omega), hs 184 6 (by omega)]
    rcases n4 with z | z
    · exact Or.inl z
    · exact Or.inr ⟨z.1, z.2.1, z.2.2.1, z.2.2.2.1, RF_same z.2.2.2.2 (fun a j h => hs a j (by omega))⟩
  · rw [e3]
    exact RD_same h2 (fun a j c1 c2 => hs a j (by omega))
  · rw [hs 0 8 (by omega), hs 0 9 (by omega), hs 184 6 (by omega)]
    intro h8
    rcases h3 h8 with z | z
    · exact Or.inl z
    · exact Or.inr ⟨z.1, PB_same z.2 (fun a j c1 c2 => hs a j (by omega))⟩
theorem TJ_buf {L' : Nat} (h : TJ σ β L m B) (hs : ∀ a j, a ≠ 1 → a ≠ 189 → ¬ (a = 0 ∧ j = 1) → ¬ (a = 184 ∧ (j = 7 ∨ j = 9)) → τ a j = σ a j) (hB : BF τ L') : TJ τ β L' m B := by
  obtain ⟨tP, h0β, ⟨i1, i2, i3, i4, i5⟩, -, ⟨e1, e2, e3, e4⟩, hF⟩ := h
  have hb := bk_two (σ 0 3)
  refine ⟨TP_fr tP (fun a j hj => hs a j (by omega) (by omega) (by omega) (by omega)), h0β, ⟨i1, i2, by rw [hs _ _ (by omega) (by omega) (by omega) (by omega)]; exact i3, by rw [hs _ _ (by omega) (by omega) (by omega) (by omega)]; exact i4, fun i hi => ⟨fun j hj => by rw [hs _ _ (by omega) (by omega) (by omega) (by omega)]; exact (i5 i hi).1 j hj, by rw [hs _ _ (by omega) (by omega) (by omega) (by omega), hs _ _ (by omega) (by omega) (by omega) (by omega), hs _ _ (by omega) (by omega) (by omega) (by omega)]; exact (i5 i hi).2⟩⟩, hB, ⟨?_, ?_, ?_, ?_⟩, ?_⟩
  · rw [hs _ _ (by omega) (by omega) (by omega) (by omega), hs 184 _ (by omega) (by omega) (by omega) (by omega)]; exact e1
  · rw [hs _ _ (by omega) (by omega) (by omega) (by omega), hs 184 _ (by omega) (by omega) (by omega) (by omega)]; exact e2
  · rw [hs _ _ (by omega) (by omega) (by omega) (by omega)]; exact e3
  · rw [hs _ _ (by omega) (by omega) (by omega) (by omega)]; exact e4
  · unfold FF
    rw [hs _ _ (by omega) (by omega) (by omega) (by omega), hs 0 4 (by omega) (by omega) (by omega) (by omega)]; exact hF
theorem q_truncate (h : TJ σ β L m B) (h1 : -2147483648 ≤ p) (h2 : p < 2147483648) : CALL (m_X12_truncate p σ) (m_X13_truncate p) := by
  have h' := h
  obtain ⟨tP, h0β, hH, ⟨f1, f2, f3, f4, f5⟩, hE, hF⟩ := h
  have hst : ∀ x : xS, x 184 9 = (L : Int) → m_X13_truncate p x = if 0 ≤ p ∧ p ≤ L then some (1, xput (xput x 184 7 0) 184 9 p) else some (0, xput x 184 7 0) := fun x hx => by
    unfold m_X13_truncate
    rw [xlet_eq, xput_ne (by omega), hx, zI_of (n := (L : Int)) (by omega) (by omega), isIn_i h1 h2 (by omega) (by omega) (by omega) (by omega)]
    by_cases c : 0 ≤ p ∧ p ≤ L
    · rw [if_pos c, if_pos c, if_neg (by omega), xlet_eq]
    · rw [if_neg c, if_neg c, if_pos rfl]
  have hno : ¬ (0 ≤ p ∧ p ≤ L) → CALL (some (0, σ)) (m_X13_truncate p) := fun c => CALL_no h' (by omega) (by omega) (by rw [hst σ f2, if_neg c])
  unfold m_X12_truncate
  rw [xj_eq, zI_of h1 h2, f1, zI_of (n := (L : Int)) (by omega) (by omega)]
  by_cases c1 : p < 0
  · rw [if_pos c1]
    exact hno (by omega)
  · rw [if_neg c1]
    by_cases c2 : p ≤ L
    · obtain ⟨o, rfl⟩ : ∃ o : Nat, p = (o : Int) := ⟨p.toNat, by omega⟩
      rw [if_pos c2, xlet_eq]
      refine OK_some ⟨by dsimp only; omega, ?_⟩
      dsimp only
      rw [hst _ (by rw [xput_ne (by omega)]; exact f2), if_pos (by omega)]
      have hfr : ∀ a j, ¬ (a = 0 ∧ j = 1) → ¬ (a = 184 ∧ (j = 7 ∨ j = 9)) → (xput (xput (xput σ 0 1 (o : Int)) 184 7 0) 184 9 (o : Int)) a j = σ a j := fun a j c1 c2 => by rw [xput_ne (by omega), xput_ne (by omega), xput_ne (by omega)]
      have z0 : (xput (xput (xput σ 0 1 (o : Int)) 184 7 0) 184 9 (o : Int)) 0 1 = (o : Int) := by rw [xput_ne (by omega), xput_ne (by omega), xput_eq]
      have z9 : (xput (xput (xput σ 0 1 (o : Int)) 184 7 0) 184 9 (o : Int)) 184 9 = (o : Int) := xput_eq
      generalize xput (xput (xput σ 0 1 (o : Int)) 184 7 0) 184 9 (o : Int) = y at hfr z0 z9
      have hJ : TJ y β o m B := by
        refine TJ_buf h' (fun a j _ _ c3 c4 => hfr a j c3 c4) ⟨z0, z9, by omega, ?_, fun q => by rw [hfr _ _ (by omega) (by omega)]; exact f5 q⟩
        funext q
        rw [hfr _ _ (by omega) (by omega), hfr 189 _ (by omega) (by omega), f4]
      exact OK_some ⟨rfl, β, o, m, B, hJ⟩
    · rw [if_neg c2]
      exact hno (by omega)
theorem q_errorCode (h : TJ σ β L m B) : CALLI σ (some (m_X12_errorCode σ)) (m_X13_errorCode σ) := by
  obtain ⟨e1, e2, e3, e4⟩ := h.2.2.2.2.1
  unfold m_X12_errorCode m_X13_errorCode
  refine ⟨_, rfl, by omega, by omega, ?_⟩
  rw [xlet_eq, xput_ne (by omega)]
  exact OK_some ⟨e1.symm, TI_told h⟩
theorem q_errorOffset (h : TJ σ β L m B) : CALLI σ (some (m_X12_errorOffset σ)) (m_X13_errorOffset σ) := by
  obtain ⟨e1, e2, e3, e4⟩ := h.2.2.2.2.1
  unfold m_X12_errorOffset m_X13_errorOffset
  refine ⟨_, rfl, by omega, by omega, ?_⟩
  rw [xlet_eq, xput_ne (by omega)]
  exact OK_some ⟨e2.symm, TI_told h⟩
end TOP5
