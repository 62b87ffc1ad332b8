/-! the reference: ovens, shops, doughs -/
section TX20
variable {T : Nat → Int} {L p cnt : Nat} {σ τ υ : xS} {n b k1 z1 c : Nat} {s : RS0} {f : Int × Nat} {S : PSt}
theorem r_ovenS (h : rtP σ T L S) (hV : PSV T L S) (hkd : kdF T L S.1 = 1) (hn : 4000000 ≤ n) : OK (m_X13_many n 5 σ) (fun τ => rtQ τ T L (sOven T L S) ∧ rtF σ τ) := by
  have h' := h
  obtain ⟨hG, hD, hN1, hN2, hg⟩ := h'
  have hG' := hG
  obtain ⟨g1, g2, g3, g4, g5⟩ := hG'
  have v5 := hV.1.2.2.2.2.2.1
  obtain ⟨c, hc⟩ : ∃ c : Nat, S.2.1 5 = (c : Int) := ⟨(S.2.1 5).toNat, by omega⟩
  have ec : (S.2.1 5).toNat = c := by omega
  have e5 : σ 186 5 = (c : Int) := by rw [hD 5 (by omega), hc]
  have eR : oRs T L S = flds T L oFl (nxS (rBeg T L 4 c S.1)) := by
    unfold oRs
    rw [ec]
  unfold m_X13_many sOven
  rw [ec, eR, show zI 5 = 5 from rfl, xck_of (by omega) (by omega), xj_eq, show (5 : Int).toNat = 5 from rfl, e5, zI_of (n := (c : Int)) (by omega) (by omega), show zI (m_X13_mostOf 5) = 4 from by decide, g2]
  by_cases cc : c < 4
  · rw [if_neg (by omega), beg_ok cc]
    dsimp only
    rw [r_fineG hG, if_neg (by omega)]
    refine OK_bind (r_skipsWord hG hkd hn) (fun s6 h6 => ?_)
    obtain ⟨i1, i2⟩ := h6
    have e5' : s6 186 5 = (c : Int) := by rw [i2 _ _ (by omega), e5]
    rw [xj_eq, if_neg (by omega), if_pos rfl]
    generalize hl : flds T L oFl (nxS (.inr ((0 : Int), ntF T L S.1))) = l
    have hO : OK (m_X13_ovenStatement n s6) (fun τ => rtS τ T L (nxS (l.getD 2 (.inl (0, 0)))) ∧ (∀ q, l.getD 2 (.inl (0, 0)) = .inr q → ∀ w, w < 3 → τ 186 (70 + 4 * c + w) = vaS (l.getD w (.inl (0, 0)))) ∧ (∀ k i, ¬ (k = 186 ∧ 70 + 4 * c ≤ i ∧ i < 70 + 4 * c + 3) → ¬ (k = 184 ∧ (i = 11 ∨ i = 12 ∨ i = 13 ∨ i = 14)) → τ k i = s6 k i)) := by
      unfold m_X13_ovenStatement
      rw [xck_of (by omega) (by omega), xlet_eq, show (5 : Int).toNat = 5 from rfl, e5']
      refine r_ovenFields (s0 := nxS (.inr ((0 : Int), ntF T L S.1))) i1 cc hn (fun τ a1 a2 a3 => ?_)
      rw [hl] at a1 a2
      exact OK_some ⟨a1, a2, a3⟩
    refine OK_bind hO (fun s8 h8 => ?_)
    obtain ⟨a1, a2, a3⟩ := h8
    try dsimp only
    rw [xck_of (by omega) (by omega), xck_of (by omega) (by omega), xlet_eq]
    have e88 : s8 186 5 = (c : Int) := by rw [a3 _ _ (by omega) (by omega), e5']
    rw [e88]
    have hf : ∀ i j, ¬ (i = 186 ∧ (j = 5 ∨ (70 + 4 * c ≤ j ∧ j < 70 + 4 * c + 3))) → ¬ (i = 184 ∧ (j = 11 ∨ j = 12 ∨ j = 13 ∨ j = 14)) → (xput s8 186 5 ((c : Int) + 1)) i j = σ i j := fun i j c1 c2 => by
      rw [xput_ne (by omega), a3 _ _ (by omega) c2, i2 _ _ (by omega)]
    refine OK_some ⟨?_, fun i j c1 c2 => hf i j (by omega) (by omega)⟩
    have a1s : rtS (xput s8 186 5 ((c : Int) + 1)) T L (nxS (l.getD 2 (.inl (0, 0)))) := rtS_same a1 (fun i j hij => xput_ne (by omega))
    cases hr : l.getD 2 (.inl (0, 0)) with
    | inl f =>
      rw [hr] at a1s
      exact a1s
    | inr q =>
      rw [hr] at a1s
      have hv := a2 q hr
      refine ⟨a1s, fun i hi' => ?_, ?_, ?_, ?_⟩
      · show (xput s8 186 5 ((c : Int) + 1)) 186 i = stI (rowI S.2.1 (70 + 4 * c) 3 l) 5 (S.2.1 5 + 1) i
        by_cases c1 : i = 5
        · subst c1
          rw [xput_eq, stI_eq, hc]
        · by_cases c2 : 70 + 4 * c ≤ i ∧ i < 70 + 4 * c + 3
          · obtain ⟨w, hw⟩ : ∃ w, i = 70 + 4 * c + w := ⟨i - (70 + 4 * c), by omega⟩
            subst hw
            rw [xput_ne (by omega), stI_ne c1, row_in (by omega) (by omega), hv w (by omega), show 70 + 4 * c + w - (70 + 4 * c) = w from by omega]
          · rw [stI_ne c1, row_out c2, hf _ _ (by omega) (by omega)]
            exact hD i hi'
      · show rtNm _ 190 T S.2.2.1 (stI (rowI S.2.1 (70 + 4 * c) 3 l) 5 (S.2.1 5 + 1) 4).toNat
        rw [stI_ne (by omega), row_out (by omega)]
        exact rtNm_f hN1 (fun j _ => hf _ _ (by omega) (by omega))
      · show rtNm _ 191 T S.2.2.2.1 (stI (rowI S.2.1 (70 + 4 * c) 3 l) 5 (S.2.1 5 + 1) 6).toNat
        rw [stI_ne (by omega), row_out (by omega)]
        exact rtNm_f hN2 (fun j _ => hf _ _ (by omega) (by omega))
      · show (xput s8 186 5 ((c : Int) + 1)) 184 17 = gvF S.2.2.2.2
        rw [hf _ _ (by omega) (by omega)]
        exact hg
  · rw [if_pos (by omega), beg_full cc]
    refine OK_bind (r_faultyG g1 ⟨_, g2, g3⟩ g4 (c := 5) (q := S.1) (by omega)) (fun u hu => ?_)
    dsimp only
    rw [r_fineX hu.1, if_pos rfl]
    exact OK_some ⟨hu.1, rtF_t hu.2.1⟩
theorem rtNm_st {m : Nat} {nm : Nat → Nat × Nat} (h : rtNm σ m T nm c) (hs : ∀ j, j < c → τ m j = σ m j) (hv : τ m c = dgF 27 T p (enF T L p - p)) : rtNm τ m T (stN nm c (p, enF T L p - p)) (c + 1) := fun i hi => by
  by_cases e : i = c
  · subst e
    rw [hv, show stN nm i (p, enF T L p - p) i = (p, enF T L p - p) from if_pos rfl]
  · rw [show stN nm c (p, enF T L p - p) i = nm i from if_neg e, hs i (by omega)]
    exact h i (by omega)
theorem r_shop (h : rtP σ T L S) (hV : PSV T L S) (hkd : kdF T L S.1 = 1) (hn : 4000000 ≤ n) : OK (m_X13_many n 6 σ) (fun τ => rtQ τ T L (sShop T L S) ∧ rtF σ τ) := by
  have h' := h
  obtain ⟨hG, hD, hN1, hN2, hg⟩ := h'
  have hG' := hG
  obtain ⟨g1, g2, g3, g4, g5⟩ := hG'
  have v6 := hV.1.2.2.2.2.2.2.1
  have hNV := hV.2.2.2.1
  obtain ⟨c, hc⟩ : ∃ c : Nat, S.2.1 6 = (c : Int) := ⟨(S.2.1 6).toNat, by omega⟩
  have ec : (S.2.1 6).toNat = c := by omega
  have e6 : σ 186 6 = (c : Int) := by rw [hD 6 (by omega), hc]
  rw [ec] at hN2 hNV
  unfold m_X13_many sShop
  rw [ec, show zI 6 = 6 from rfl, xck_of (by omega) (by omega), xj_eq, show (6 : Int).toNat = 6 from rfl, e6, zI_of (n := (c : Int)) (by omega) (by omega), show zI (m_X13_mostOf 6) = 7 from by decide, g2]
  by_cases cc : c < 7
  · rw [if_neg (by omega), beg_ok cc]
    dsimp only
    rw [r_fineG hG, if_neg (by omega)]
    refine OK_bind (r_skipsWord hG hkd hn) (fun s6 h6 => ?_)
    obtain ⟨i1, i2⟩ := h6
    have e6' : s6 186 6 = (c : Int) := by rw [i2 _ _ (by omega), e6]
    rw [xj_eq, if_neg (by omega), if_neg (by omega), if_pos rfl, xck_of (by omega) (by omega), xck_of (by omega) (by omega), e6']
    refine OK_xbS (r_fresh (s := .inr (ntF T L S.1)) i1 (rtNm_f hN2 (fun j _ => i2 _ _ (by omega))) hNV (by omega) (Or.inr rfl) hn) (fun v s8 h8 => ?_)
    obtain ⟨a1, a2, a3⟩ := h8
    dsimp only at a1 a2 a3
    rw [zI_of (n := (c : Int)) (by omega) (by omega), xck_of (by omega) (by omega), xlet_eq, tn_cast]
    try dsimp only
    rw [xck_of (by omega) (by omega), xck_of (by omega) (by omega), xlet_eq]
    have e88 : (xput s8 191 c v) 186 6 = (c : Int) := by rw [xput_ne (by omega), a3 _ _ (by omega), e6']
    rw [e88]
    have hf : ∀ i j, ¬ (i = 186 ∧ j = 6) → ¬ (i = 191 ∧ j = c) → ¬ (i = 184 ∧ (j = 11 ∨ j = 12 ∨ j = 13 ∨ j = 14)) → (xput (xput s8 191 c v) 186 6 ((c : Int) + 1)) i j = σ i j := fun i j c1 c2 c3 => by
      rw [xput_ne c1, xput_ne c2, a3 _ _ c3, i2 _ _ (by omega)]
    refine OK_some ⟨?_, fun i j c1 c2 => hf i j (by omega) (by omega) (by omega)⟩
    have a1s : rtS (xput (xput s8 191 c v) 186 6 ((c : Int) + 1)) T L (nxS (rNew T L S.2.2.2.1 c (ntF T L S.1))) := rtS_same (s := nxS (rNew T L S.2.2.2.1 c (ntF T L S.1))) a1 (fun i j hij => by rw [xput_ne (by omega), xput_ne (by omega)])
    show rtQ _ T L (fin1 (rNew T L S.2.2.2.1 c (ntF T L S.1)) (fun _ q => (q, stI S.2.1 6 (S.2.1 6 + 1), S.2.2.1, stN S.2.2.2.1 c (ntF T L S.1, enF T L (ntF T L S.1) - ntF T L S.1), S.2.2.2.2)))
    cases hr : rNew T L S.2.2.2.1 c (ntF T L S.1) with
    | inl f =>
      rw [hr] at a1s
      exact a1s
    | inr q =>
      rw [hr] at a1s
      have hv := a2 _ rfl q hr
      refine ⟨a1s, fun i hi' => ?_, ?_, ?_, ?_⟩
      · show (xput (xput s8 191 c v) 186 6 ((c : Int) + 1)) 186 i = stI S.2.1 6 (S.2.1 6 + 1) i
        by_cases c1 : i = 6
        · subst c1
          rw [xput_eq, stI_eq, hc]
        · rw [stI_ne c1, hf _ _ (by omega) (by omega) (by omega)]
          exact hD i hi'
      · show rtNm _ 190 T S.2.2.1 (stI S.2.1 6 (S.2.1 6 + 1) 4).toNat
        rw [stI_ne (by omega)]
        exact rtNm_f hN1 (fun j _ => hf _ _ (by omega) (by omega) (by omega))
      · show rtNm _ 191 T (stN S.2.2.2.1 c (ntF T L S.1, enF T L (ntF T L S.1) - ntF T L S.1)) (stI S.2.1 6 (S.2.1 6 + 1) 6).toNat
        rw [stI_eq, show (S.2.1 6 + 1).toNat = c + 1 from by omega]
        exact rtNm_st hN2 (fun j hj => hf _ _ (by omega) (by omega) (by omega)) (by rw [xput_ne (by omega), xput_eq]; exact hv)
      · show (xput (xput s8 191 c v) 186 6 ((c : Int) + 1)) 184 17 = gvF S.2.2.2.2
        rw [hf _ _ (by omega) (by omega) (by omega)]
        exact hg
  · rw [if_pos (by omega), beg_full cc]
    refine OK_bind (r_faultyG g1 ⟨_, g2, g3⟩ g4 (c := 5) (q := S.1) (by omega)) (fun u hu => ?_)
    dsimp only
    rw [r_fineX hu.1, if_pos rfl]
    exact OK_some ⟨hu.1, rtF_t hu.2.1⟩
end TX20
