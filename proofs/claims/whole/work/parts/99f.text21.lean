/-! the reference: doughs, streets -/
section TX21
variable {T : Nat → Int} {L p cnt : Nat} {σ τ υ : xS} {n b k1 z1 c : Nat} {s : RS0} {f : Int × Nat} {S : PSt}
theorem r_doughS (h : rtP σ T L S) (hV : PSV T L S) (hkd : kdF T L S.1 = 1) (hn : 4000000 ≤ n) : OK (m_X13_many n 4 σ) (fun τ => rtQ τ T L (sDough T L S) ∧ rtF σ τ) := by
  have h' := h
  obtain ⟨hG, hD, hN1, hN2, hg⟩ := h'
  have hG' := hG
  obtain ⟨g1, g2, g3, g4, g5⟩ := hG'
  have v4 := hV.1.2.2.2.2.1
  have hNV := hV.2.2.1
  obtain ⟨c, hc⟩ : ∃ c : Nat, S.2.1 4 = (c : Int) := ⟨(S.2.1 4).toNat, by omega⟩
  have ec : (S.2.1 4).toNat = c := by omega
  have e4 : σ 186 4 = (c : Int) := by rw [hD 4 (by omega), hc]
  rw [ec] at hN1 hNV
  have eR : dRs T L S = flds T L dFl (nxS (bnd (nxS (rBeg T L 6 c S.1)) (rNew T L S.2.2.1 c))) := by
    unfold dRs dSt
    rw [ec]
  unfold m_X13_many sDough
  rw [ec, eR, show zI 4 = 4 from rfl, xck_of (by omega) (by omega), xj_eq, show (4 : Int).toNat = 4 from rfl, e4, zI_of (n := (c : Int)) (by omega) (by omega), show zI (m_X13_mostOf 4) = 6 from by decide, g2]
  by_cases cc : c < 6
  · rw [if_neg (by omega), beg_ok cc]
    dsimp only
    rw [r_fineG hG, if_neg (by omega)]
    refine OK_bind (r_skipsWord hG hkd hn) (fun s6 h6 => ?_)
    obtain ⟨i1, i2⟩ := h6
    have e4' : s6 186 4 = (c : Int) := by rw [i2 _ _ (by omega), e4]
    rw [xj_eq, if_pos rfl]
    show OK _ (fun τ => rtQ τ T L (fin1 ((flds T L dFl (nxS (rNew T L S.2.2.1 c (ntF T L S.1)))).getD 9 (.inl (0, 0))) (fun _ q => (q, stI (rowI S.2.1 (10 + 10 * c) 10 (flds T L dFl (nxS (rNew T L S.2.2.1 c (ntF T L S.1))))) 4 (S.2.1 4 + 1), stN S.2.2.1 c (ntF T L S.1, enF T L (ntF T L S.1) - ntF T L S.1), S.2.2.2.1, S.2.2.2.2))) ∧ rtF σ τ)
    generalize hl : flds T L dFl (nxS (rNew T L S.2.2.1 c (ntF T L S.1))) = l
    have hO : OK (m_X13_doughStatement n s6) (fun τ => rtS τ T L (nxS (l.getD 9 (.inl (0, 0)))) ∧ (∀ q, l.getD 9 (.inl (0, 0)) = .inr q → (∀ w, w < 10 → τ 186 (10 + 10 * c + w) = vaS (l.getD w (.inl (0, 0)))) ∧ τ 190 c = dgF 27 T (ntF T L S.1) (enF T L (ntF T L S.1) - ntF T L S.1)) ∧ (∀ k i, ¬ (k = 186 ∧ 10 + 10 * c ≤ i ∧ i < 10 + 10 * c + 10) → ¬ (k = 190 ∧ i = c) → ¬ (k = 184 ∧ (i = 11 ∨ i = 12 ∨ i = 13 ∨ i = 14)) → τ k i = s6 k i)) := by
      unfold m_X13_doughStatement
      rw [xck_of (by omega) (by omega), xlet_eq, show (4 : Int).toNat = 4 from rfl, e4']
      refine OK_xbS (r_fresh (s := .inr (ntF T L S.1)) i1 (rtNm_f hN1 (fun j _ => i2 _ _ (by omega))) hNV (by omega) (Or.inl rfl) hn) (fun v s8 h8 => ?_)
      obtain ⟨a1, a2, a3⟩ := h8
      dsimp only at a1 a2 a3
      rw [xlet_eq]
      refine r_doughFields (s0 := nxS (rNew T L S.2.2.1 c (ntF T L S.1))) a1 cc hn (fun τ b1 b2 b3 => ?_)
      rw [hl] at b1 b2
      rw [zI_of (n := (c : Int)) (by omega) (by omega), xck_of (by omega) (by omega), xlet_eq, tn_cast]
      refine OK_some ⟨rtS_same b1 (fun i j hij => xput_ne (by omega)), fun q hq => ⟨fun w hw => ?_, ?_⟩, fun k i c1 c2 c3 => ?_⟩
      · rw [xput_ne (by omega)]
        exact b2 q hq w hw
      · rw [xput_eq]
        have hq' := hq
        rw [← hl] at hq'
        obtain ⟨⟨p0, hp0⟩, -⟩ := flds_all dFl _ 9 (by decide) q hq'
        obtain ⟨u, hu⟩ := nx_inr hp0
        exact a2 _ rfl _ hu
      · rw [xput_ne c2, b3 _ _ c1 c3, a3 _ _ c3]
    refine OK_bind hO (fun s8 h8 => ?_)
    obtain ⟨a1, a2, a3⟩ := h8
    try dsimp only
    rw [xck_of (by omega) (by omega), xck_of (by omega) (by omega), xlet_eq]
    have e88 : s8 186 4 = (c : Int) := by rw [a3 _ _ (by omega) (by omega) (by omega), e4']
    rw [e88]
    have hf : ∀ i j, ¬ (i = 186 ∧ (j = 4 ∨ (10 + 10 * c ≤ j ∧ j < 10 + 10 * c + 10))) → ¬ (i = 190 ∧ j = c) → ¬ (i = 184 ∧ (j = 11 ∨ j = 12 ∨ j = 13 ∨ j = 14)) → (xput s8 186 4 ((c : Int) + 1)) i j = σ i j := fun i j c1 c2 c3 => by
      rw [xput_ne (by omega), a3 _ _ (by omega) c2 c3, i2 _ _ (by omega)]
    refine OK_some ⟨?_, fun i j c1 c2 => hf i j (by omega) (by omega) (by omega)⟩
    have a1s : rtS (xput s8 186 4 ((c : Int) + 1)) T L (nxS (l.getD 9 (.inl (0, 0)))) := rtS_same a1 (fun i j hij => xput_ne (by omega))
    cases hr : l.getD 9 (.inl (0, 0)) with
    | inl f =>
      rw [hr] at a1s
      exact a1s
    | inr q =>
      rw [hr] at a1s
      obtain ⟨hv, hnm⟩ := a2 q hr
      refine ⟨a1s, fun i hi' => ?_, ?_, ?_, ?_⟩
      · show (xput s8 186 4 ((c : Int) + 1)) 186 i = stI (rowI S.2.1 (10 + 10 * c) 10 l) 4 (S.2.1 4 + 1) i
        by_cases c1 : i = 4
        · subst c1
          rw [xput_eq, stI_eq, hc]
        · by_cases c2 : 10 + 10 * c ≤ i ∧ i < 10 + 10 * c + 10
          · obtain ⟨w, hw⟩ : ∃ w, i = 10 + 10 * c + w := ⟨i - (10 + 10 * c), by omega⟩
            subst hw
            rw [xput_ne (by omega), stI_ne c1, row_in (by omega) (by omega), hv w (by omega), show 10 + 10 * c + w - (10 + 10 * c) = w from by omega]
          · rw [stI_ne c1, row_out c2, hf _ _ (by omega) (by omega) (by omega)]
            exact hD i hi'
      · show rtNm _ 190 T (stN S.2.2.1 c (ntF T L S.1, enF T L (ntF T L S.1) - ntF T L S.1)) (stI (rowI S.2.1 (10 + 10 * c) 10 l) 4 (S.2.1 4 + 1) 4).toNat
        rw [stI_eq, show (S.2.1 4 + 1).toNat = c + 1 from by omega]
        exact rtNm_st hN1 (fun j hj => hf _ _ (by omega) (by omega) (by omega)) (by rw [xput_ne (by omega)]; exact hnm)
      · show rtNm _ 191 T S.2.2.2.1 (stI (rowI S.2.1 (10 + 10 * c) 10 l) 4 (S.2.1 4 + 1) 6).toNat
        rw [stI_ne (by omega), row_out (by omega)]
        exact rtNm_f hN2 (fun j _ => hf _ _ (by omega) (by omega) (by omega))
      · show (xput s8 186 4 ((c : Int) + 1)) 184 17 = gvF S.2.2.2.2
        rw [hf _ _ (by omega) (by omega) (by omega)]
        exact hg
  · rw [if_pos (by omega), beg_full cc]
    refine OK_bind (r_faultyG g1 ⟨_, g2, g3⟩ g4 (c := 5) (q := S.1) (by omega)) (fun u hu => ?_)
    dsimp only
    rw [r_fineX hu.1, if_pos rfl]
    exact OK_some ⟨hu.1, rtF_t hu.2.1⟩
end TX21
