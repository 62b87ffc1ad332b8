/-! the reference: statements that may be many; vans -/
section TX19
variable {T : Nat → Int} {L p cnt : Nat} {σ τ υ : xS} {n b k1 z1 c : Nat} {s : RS0} {f : Int × Nat} {S : PSt}
theorem beg_full {most : Nat} (h : ¬ c < most) : rBeg T L most c p = .inl (5, p) := if_neg h
theorem beg_ok {most : Nat} (h : c < most) : rBeg T L most c p = .inr (0, ntF T L p) := if_pos h
theorem r_van (h : rtP σ T L S) (hV : PSV T L S) (hkd : kdF T L S.1 = 1) (hn : 4000000 ≤ n) : OK (m_X13_many n 8 σ) (fun τ => rtQ τ T L (sVan T L S) ∧ rtF σ τ) := by
  have h' := h
  obtain ⟨hG, hD, hN1, hN2, hg⟩ := h'
  have hG' := hG
  obtain ⟨g1, g2, g3, g4, g5⟩ := hG'
  have v8 := hV.1.2.2.2.2.2.2.2.2.1
  obtain ⟨c, hc⟩ : ∃ c : Nat, S.2.1 8 = (c : Int) := ⟨(S.2.1 8).toNat, by omega⟩
  have ec : (S.2.1 8).toNat = c := by omega
  have e8 : σ 186 8 = (c : Int) := by rw [hD 8 (by omega), hc]
  unfold m_X13_many sVan
  rw [ec, show zI 8 = 8 from rfl, xck_of (by omega) (by omega), xj_eq, show (8 : Int).toNat = 8 from rfl, e8, zI_of (n := (c : Int)) (by omega) (by omega), show zI (m_X13_mostOf 8) = 3 from by decide, g2]
  by_cases cc : c < 3
  · rw [if_neg (by omega)]
    dsimp only
    rw [r_fineG hG, if_neg (by omega)]
    refine OK_bind (r_skipsWord hG hkd hn) (fun s6 h6 => ?_)
    obtain ⟨i1, i2⟩ := h6
    rw [xj_eq, if_neg (by omega), if_neg (by omega), if_neg (by omega), if_neg (by omega), if_pos rfl, xck_of (by omega) (by omega)]
    refine OK_xbS (r_number (s := .inr (ntF T L S.1)) (lo := 1) (hi := 2000) i1 (by omega) hn) (fun v s8 h8 => ?_)
    obtain ⟨a1, a2, a3⟩ := h8
    dsimp only at a1 a2 a3
    have e8' : s6 186 8 = (c : Int) := by rw [i2 _ _ (by omega), e8]
    rw [e8', show (166 : Int) + (c : Int) = ((166 + c : Nat) : Int) from by omega, zI_of (n := ((166 + c : Nat) : Int)) (by omega) (by omega), xck_of (by omega) (by omega), xlet_eq, tn_cast]
    try dsimp only
    rw [xck_of (by omega) (by omega), xck_of (by omega) (by omega), xlet_eq]
    have e88 : (xput s8 186 (166 + c) v) 186 8 = (c : Int) := by rw [xput_ne (by omega), a3 _ _ (by omega), e8']
    rw [e88]
    have hf : ∀ i j, ¬ (i = 186 ∧ (j = 8 ∨ j = 166 + c)) → ¬ (i = 184 ∧ (j = 11 ∨ j = 12 ∨ j = 13 ∨ j = 14)) → (xput (xput s8 186 (166 + c) v) 186 8 ((c : Int) + 1)) i j = σ i j := fun i j c1 c2 => by
      rw [xput_ne (by omega), xput_ne (by omega), a3 _ _ c2, i2 _ _ (by omega)]
    refine OK_some ⟨?_, fun i j c1 c2 => hf i j (by omega) (by omega)⟩
    rw [beg_ok cc]
    show rtQ _ T L (fin1 (rNum T L 1 2000 (ntF T L S.1)) (fun v q => (q, stI (stI S.2.1 (166 + c) v) 8 (S.2.1 8 + 1), S.2.2.1, S.2.2.2.1, S.2.2.2.2)))
    have a1' : rtS s8 T L (nxS (rNum T L 1 2000 (ntF T L S.1))) := a1
    have a2' : ∀ q, rNum T L 1 2000 (ntF T L S.1) = .inr q → v = q.1 := a2
    have a1s : rtS (xput (xput s8 186 (166 + c) v) 186 8 ((c : Int) + 1)) T L (nxS (rNum T L 1 2000 (ntF T L S.1))) := rtS_same a1' (fun i j hij => by rw [xput_ne (by omega), xput_ne (by omega)])
    cases hr : rNum T L 1 2000 (ntF T L S.1) with
    | inl f =>
      rw [hr] at a1s
      exact a1s
    | inr q =>
      rw [hr] at a1s
      have hv := a2' q hr
      refine ⟨a1s, fun i hi' => ?_, ?_, ?_, ?_⟩
      · show (xput (xput s8 186 (166 + c) v) 186 8 ((c : Int) + 1)) 186 i = stI (stI S.2.1 (166 + c) q.1) 8 (S.2.1 8 + 1) i
        by_cases c1 : i = 8
        · subst c1
          rw [xput_eq, stI_eq, hc]
        · by_cases c2 : i = 166 + c
          · subst c2
            rw [xput_ne (by omega), xput_eq, stI_ne c1, stI_eq, hv]
          · rw [stI_ne c1, stI_ne c2, hf _ _ (by omega) (by omega)]
            exact hD i hi'
      · show rtNm _ 190 T S.2.2.1 (stI (stI S.2.1 (166 + c) q.1) 8 (S.2.1 8 + 1) 4).toNat
        rw [stI_ne (by omega), stI_ne (by omega)]
        exact rtNm_f hN1 (fun j _ => hf _ _ (by omega) (by omega))
      · show rtNm _ 191 T S.2.2.2.1 (stI (stI S.2.1 (166 + c) q.1) 8 (S.2.1 8 + 1) 6).toNat
        rw [stI_ne (by omega), stI_ne (by omega)]
        exact rtNm_f hN2 (fun j _ => hf _ _ (by omega) (by omega))
      · show (xput (xput s8 186 (166 + c) v) 186 8 ((c : Int) + 1)) 184 17 = gvF S.2.2.2.2
        rw [hf _ _ (by omega) (by omega)]
        exact hg
  · rw [if_pos (by omega)]
    refine OK_bind (r_faultyG g1 ⟨_, g2, g3⟩ g4 (c := 5) (q := S.1) (by omega)) (fun u hu => ?_)
    dsimp only
    rw [r_fineX hu.1, if_pos rfl, beg_full cc]
    exact OK_some ⟨hu.1, rtF_t hu.2.1⟩
end TX19
