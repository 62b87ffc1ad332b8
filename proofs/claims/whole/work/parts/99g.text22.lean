/-! the reference: orders -/
section TX22
variable {T : Nat → Int} {L p cnt : Nat} {σ τ υ : xS} {n b k1 z1 c : Nat} {s : RS0} {f : Int × Nat} {S : PSt}
theorem r_orderS (h : rtP σ T L S) (hV : PSV T L S) (hkd : kdF T L S.1 = 1) (hn : 4000000 ≤ n) : OK (m_X13_many n 9 σ) (fun τ => rtQ τ T L (sOrder T L S) ∧ rtF σ τ) := by
  have h' := h
  obtain ⟨hG, hD, hN1, hN2, hg⟩ := h'
  have hG' := hG
  obtain ⟨g1, g2, g3, g4, g5⟩ := hG'
  have v4 := hV.1.2.2.2.2.1
  have v6 := hV.1.2.2.2.2.2.2.1
  have v9 := hV.1.2.2.2.2.2.2.2.2.2.1
  have hNV1 := hV.2.2.1
  have hNV2 := hV.2.2.2.1
  obtain ⟨c, hc⟩ : ∃ c : Nat, S.2.1 9 = (c : Int) := ⟨(S.2.1 9).toNat, by omega⟩
  have ec : (S.2.1 9).toNat = c := by omega
  obtain ⟨m, hm⟩ : ∃ m : Nat, S.2.1 6 = (m : Int) := ⟨(S.2.1 6).toNat, by omega⟩
  have em : (S.2.1 6).toNat = m := by omega
  obtain ⟨k, hk⟩ : ∃ k : Nat, S.2.1 4 = (k : Int) := ⟨(S.2.1 4).toNat, by omega⟩
  have ek : (S.2.1 4).toNat = k := by omega
  rw [em] at hN2 hNV2
  rw [ek] at hN1 hNV1
  have e9 : σ 186 9 = (c : Int) := by rw [hD 9 (by omega), hc]
  have e6 : σ 186 6 = (m : Int) := by rw [hD 6 (by omega), hm]
  have e4 : σ 186 4 = (k : Int) := by rw [hD 4 (by omega), hk]
  have eo1 : o1S T L S = bnd (nxS (rBeg T L 24 c S.1)) (rKnw T L S.2.2.2.1 m) := by unfold o1S; rw [ec, em]
  have eo2 : o2S T L S = bnd (nxS (o1S T L S)) (rKnw T L S.2.2.1 k) := by unfold o2S; rw [ek]
  have eo3 : o3S T L S = bnd (nxS (o2S T L S)) (rNum T L 1 200) := rfl
  unfold m_X13_many sOrder
  rw [ec, show zI 9 = 9 from rfl, xck_of (by omega) (by omega), xj_eq, show (9 : Int).toNat = 9 from rfl, e9, zI_of (n := (c : Int)) (by omega) (by omega), show zI (m_X13_mostOf 9) = 24 from by decide, g2]
  by_cases cc : c < 24
  · rw [if_neg (by omega)]
    rw [beg_ok cc] at eo1
    have eo1' : o1S T L S = bnd (.inr (ntF T L S.1)) (rKnw T L S.2.2.2.1 m) := eo1
    dsimp only
    rw [r_fineG hG, if_neg (by omega)]
    refine OK_bind (r_skipsWord hG hkd hn) (fun s6 h6 => ?_)
    obtain ⟨i1, i2⟩ := h6
    have e9' : s6 186 9 = (c : Int) := by rw [i2 _ _ (by omega), e9]
    have e6' : s6 186 6 = (m : Int) := by rw [i2 _ _ (by omega), e6]
    have e4' : s6 186 4 = (k : Int) := by rw [i2 _ _ (by omega), e4]
    rw [xj_eq, if_neg (by omega), if_neg (by omega), if_neg (by omega), if_neg (by omega), if_neg (by omega)]
    have hO : OK (m_X13_orderStatement n s6) (fun τ => rtS τ T L (nxS (bnd (nxS (o3S T L S)) (rFld T L 22 0 1439))) ∧ (∀ q, bnd (nxS (o3S T L S)) (rFld T L 22 0 1439) = .inr q → τ 186 (169 + 5 * c) = vaS (o1S T L S) ∧ τ 186 (169 + 5 * c + 1) = vaS (o2S T L S) ∧ τ 186 (169 + 5 * c + 2) = vaS (o3S T L S) ∧ τ 186 (169 + 5 * c + 3) = q.1) ∧ (∀ k i, ¬ (k = 186 ∧ 169 + 5 * c ≤ i ∧ i < 169 + 5 * c + 4) → ¬ (k = 184 ∧ (i = 11 ∨ i = 12 ∨ i = 13 ∨ i = 14)) → τ k i = s6 k i)) := by
      unfold m_X13_orderStatement
      rw [xck_of (by omega) (by omega), xlet_eq, show (9 : Int).toNat = 9 from rfl, e9', xck_of (by omega) (by omega), show (6 : Int).toNat = 6 from rfl, e6']
      rw [show (169 : Int) + 5 * (c : Int) + 0 = ((169 + 5 * c : Nat) : Int) from by omega, show (169 : Int) + 5 * (c : Int) + 1 = ((169 + 5 * c + 1 : Nat) : Int) from by omega, show (169 : Int) + 5 * (c : Int) + 2 = ((169 + 5 * c + 2 : Nat) : Int) from by omega, show (169 : Int) + 5 * (c : Int) + 3 = ((169 + 5 * c + 3 : Nat) : Int) from by omega]
      refine OK_xbS (r_known (s := .inr (ntF T L S.1)) i1 (rtNm_f hN2 (fun j _ => i2 _ _ (by omega))) hNV2 (by omega) (Or.inr rfl) hn) (fun u1 s2 h1 => ?_)
      obtain ⟨a1, a2, -, a3⟩ := h1
      dsimp only at a1 a2 a3
      rw [← eo1'] at a1 a2
      rw [zI_of (n := ((169 + 5 * c : Nat) : Int)) (by omega) (by omega), xck_of (by omega) (by omega), xlet_eq, tn_cast]
      have p1 : rtS (xput s2 186 (169 + 5 * c) u1) T L (nxS (o1S T L S)) := rtS_same a1 (fun i j hij => xput_ne (by omega))
      have q1 : ∀ i j, ¬ (i = 186 ∧ j = 169 + 5 * c) → ¬ (i = 184 ∧ (j = 11 ∨ j = 12 ∨ j = 13 ∨ j = 14)) → (xput s2 186 (169 + 5 * c) u1) i j = s6 i j := fun i j c1 c2 => by rw [xput_ne c1, a3 _ _ c2]
      have r1 : (xput s2 186 (169 + 5 * c) u1) 186 (169 + 5 * c) = u1 := xput_eq
      generalize xput s2 186 (169 + 5 * c) u1 = s3 at p1 q1 r1 ⊢
      rw [xck_of (by omega) (by omega), show (4 : Int).toNat = 4 from rfl, show s3 186 4 = (k : Int) from by rw [q1 _ _ (by omega) (by omega), e4']]
      refine OK_xbS (r_known p1 (rtNm_f hN1 (fun j _ => by rw [q1 _ _ (by omega) (by omega), i2 _ _ (by omega)])) hNV1 (by omega) (Or.inl rfl) hn) (fun u2 s5 h2 => ?_)
      obtain ⟨b1, b2, -, b3⟩ := h2
      dsimp only at b1 b2 b3
      rw [← eo2] at b1 b2
      rw [zI_of (n := ((169 + 5 * c + 1 : Nat) : Int)) (by omega) (by omega), xck_of (by omega) (by omega), xlet_eq, tn_cast]
      have p2 : rtS (xput s5 186 (169 + 5 * c + 1) u2) T L (nxS (o2S T L S)) := rtS_same b1 (fun i j hij => xput_ne (by omega))
      have q2 : ∀ i j, ¬ (i = 186 ∧ j = 169 + 5 * c + 1) → ¬ (i = 184 ∧ (j = 11 ∨ j = 12 ∨ j = 13 ∨ j = 14)) → (xput s5 186 (169 + 5 * c + 1) u2) i j = s3 i j := fun i j c1 c2 => by rw [xput_ne c1, b3 _ _ c2]
      have r2 : (xput s5 186 (169 + 5 * c + 1) u2) 186 (169 + 5 * c + 1) = u2 := xput_eq
      generalize xput s5 186 (169 + 5 * c + 1) u2 = s7 at p2 q2 r2 ⊢
      refine OK_xbS (r_number (lo := 1) (hi := 200) p2 (by omega) hn) (fun u3 s8 h3 => ?_)
      obtain ⟨d1, d2, d3⟩ := h3
      dsimp only at d1 d2 d3
      rw [← eo3] at d1 d2
      rw [zI_of (n := ((169 + 5 * c + 2 : Nat) : Int)) (by omega) (by omega), xck_of (by omega) (by omega), xlet_eq, tn_cast]
      have p3 : rtS (xput s8 186 (169 + 5 * c + 2) u3) T L (nxS (o3S T L S)) := rtS_same d1 (fun i j hij => xput_ne (by omega))
      have q3 : ∀ i j, ¬ (i = 186 ∧ j = 169 + 5 * c + 2) → ¬ (i = 184 ∧ (j = 11 ∨ j = 12 ∨ j = 13 ∨ j = 14)) → (xput s8 186 (169 + 5 * c + 2) u3) i j = s7 i j := fun i j c1 c2 => by rw [xput_ne c1, d3 _ _ c2]
      have r3 : (xput s8 186 (169 + 5 * c + 2) u3) 186 (169 + 5 * c + 2) = u3 := xput_eq
      generalize xput s8 186 (169 + 5 * c + 2) u3 = s10 at p3 q3 r3 ⊢
      refine OK_bind (r_part (w := 22) (K := 169 + 5 * c + 3) (lo := 0) (hi := 1439) p3 (by omega) (by omega) (by omega) hn) (fun s11 h4 => ?_)
      obtain ⟨f1, f2, f3⟩ := h4
      refine OK_some ⟨f1, fun q hq => ?_, fun i j c1 c2 => ?_⟩
      · obtain ⟨x3, hx3, -⟩ := bnd_inr hq
        obtain ⟨y3, hy3⟩ := nx_inr hx3
        have hy3' := hy3
        rw [eo3] at hy3'
        obtain ⟨x2, hx2, -⟩ := bnd_inr hy3'
        obtain ⟨y2, hy2⟩ := nx_inr hx2
        have hy2' := hy2
        rw [eo2] at hy2'
        obtain ⟨x1, hx1, -⟩ := bnd_inr hy2'
        obtain ⟨y1, hy1⟩ := nx_inr hx1
        rw [va_inr hy1, va_inr hy2, va_inr hy3]
        refine ⟨?_, ?_, ?_, f2 q hq⟩
        · rw [f3 _ _ (by omega) (by omega), q3 _ _ (by omega) (by omega), q2 _ _ (by omega) (by omega), r1]
          exact a2 _ hy1
        · rw [f3 _ _ (by omega) (by omega), q3 _ _ (by omega) (by omega), r2]
          exact b2 _ hy2
        · rw [f3 _ _ (by omega) (by omega), r3]
          exact d2 _ hy3
      · rw [f3 _ _ (by omega) c2, q3 _ _ (by omega) c2, q2 _ _ (by omega) c2, q1 _ _ (by omega) c2]
    refine OK_bind hO (fun s8 h8 => ?_)
    obtain ⟨a1, a2, a3⟩ := h8
    try dsimp only
    rw [xck_of (by omega) (by omega), xck_of (by omega) (by omega), xlet_eq]
    have e88 : s8 186 9 = (c : Int) := by rw [a3 _ _ (by omega) (by omega), e9']
    rw [e88]
    have hf : ∀ i j, ¬ (i = 186 ∧ (j = 9 ∨ (169 + 5 * c ≤ j ∧ j < 169 + 5 * c + 4))) → ¬ (i = 184 ∧ (j = 11 ∨ j = 12 ∨ j = 13 ∨ j = 14)) → (xput s8 186 9 ((c : Int) + 1)) i j = σ i j := fun i j c1 c2 => by
      rw [xput_ne (by omega), a3 _ _ (by omega) c2, i2 _ _ (by omega)]
    refine OK_some ⟨?_, fun i j c1 c2 => hf i j (by omega) (by omega)⟩
    have a1s : rtS (xput s8 186 9 ((c : Int) + 1)) T L (nxS (bnd (nxS (o3S T L S)) (rFld T L 22 0 1439))) := rtS_same a1 (fun i j hij => xput_ne (by omega))
    cases hr : bnd (nxS (o3S T L S)) (rFld T L 22 0 1439) with
    | inl f =>
      rw [hr] at a1s
      exact a1s
    | inr q =>
      rw [hr] at a1s
      obtain ⟨w0, w1, w2, w3⟩ := a2 q hr
      refine ⟨a1s, fun i hi' => ?_, ?_, ?_, ?_⟩
      · show (xput s8 186 9 ((c : Int) + 1)) 186 i = stI (stI (stI (stI (stI S.2.1 (169 + 5 * c) (vaS (o1S T L S))) (169 + 5 * c + 1) (vaS (o2S T L S))) (169 + 5 * c + 2) (vaS (o3S T L S))) (169 + 5 * c + 3) q.1) 9 (S.2.1 9 + 1) i
        by_cases c1 : i = 9
        · subst c1
          rw [xput_eq, stI_eq, hc]
        · rw [stI_ne c1]
          by_cases c2 : 169 + 5 * c ≤ i ∧ i < 169 + 5 * c + 4
          · rw [xput_ne (by omega)]
            have : i = 169 + 5 * c ∨ i = 169 + 5 * c + 1 ∨ i = 169 + 5 * c + 2 ∨ i = 169 + 5 * c + 3 := by omega
            rcases this with rfl | rfl | rfl | rfl
            · rw [stI_ne (by omega), stI_ne (by omega), stI_ne (by omega), stI_eq, w0]
            · rw [stI_ne (by omega), stI_ne (by omega), stI_eq, w1]
            · rw [stI_ne (by omega), stI_eq, w2]
            · rw [stI_eq, w3]
          · rw [stI_ne (by omega), stI_ne (by omega), stI_ne (by omega), stI_ne (by omega), hf _ _ (by omega) (by omega)]
            exact hD i hi'
      · show rtNm _ 190 T S.2.2.1 (stI (stI (stI (stI (stI S.2.1 (169 + 5 * c) (vaS (o1S T L S))) (169 + 5 * c + 1) (vaS (o2S T L S))) (169 + 5 * c + 2) (vaS (o3S T L S))) (169 + 5 * c + 3) q.1) 9 (S.2.1 9 + 1) 4).toNat
        rw [stI_ne (by omega), stI_ne (by omega), stI_ne (by omega), stI_ne (by omega), stI_ne (by omega), ek]
        exact rtNm_f hN1 (fun j _ => hf _ _ (by omega) (by omega))
      · show rtNm _ 191 T S.2.2.2.1 (stI (stI (stI (stI (stI S.2.1 (169 + 5 * c) (vaS (o1S T L S))) (169 + 5 * c + 1) (vaS (o2S T L S))) (169 + 5 * c + 2) (vaS (o3S T L S))) (169 + 5 * c + 3) q.1) 9 (S.2.1 9 + 1) 6).toNat
        rw [stI_ne (by omega), stI_ne (by omega), stI_ne (by omega), stI_ne (by omega), stI_ne (by omega), em]
        exact rtNm_f hN2 (fun j _ => hf _ _ (by omega) (by omega))
      · show (xput s8 186 9 ((c : Int) + 1)) 184 17 = gvF S.2.2.2.2
        rw [hf _ _ (by omega) (by omega)]
        exact hg
  · rw [if_pos (by omega)]
    rw [beg_full cc] at eo1
    have x1 : o1S T L S = .inl (5, S.1) := eo1
    have x2 : o2S T L S = .inl (5, S.1) := by rw [eo2, x1]; rfl
    have x3 : o3S T L S = .inl (5, S.1) := by rw [eo3, x2]; rfl
    rw [x3]
    refine OK_bind (r_faultyG g1 ⟨_, g2, g3⟩ g4 (c := 5) (q := S.1) (by omega)) (fun u hu => ?_)
    dsimp only
    rw [r_fineX hu.1, if_pos rfl]
    exact OK_some ⟨hu.1, rtF_t hu.2.1⟩
end TX22
