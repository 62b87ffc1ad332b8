/-! the reference: a street -/
section TX24
variable {T : Nat → Int} {L p cnt : Nat} {σ τ υ : xS} {n b k1 z1 c : Nat} {s : RS0} {f : Int × Nat} {S : PSt}
theorem r_streetS (h : rtP σ T L S) (hV : PSV T L S) (hkd : kdF T L S.1 = 1) (hn : 4000000 ≤ n) : OK (m_X13_many n 7 σ) (fun τ => rtQ τ T L (sStreet T L S) ∧ rtF σ τ) := by
  have h' := h
  obtain ⟨hG, hD, hN1, hN2, hg⟩ := h'
  have hG' := hG
  obtain ⟨g1, g2, g3, g4, g5⟩ := hG'
  have v6 := hV.1.2.2.2.2.2.2.1
  have v7 := hV.1.2.2.2.2.2.2.2.1
  have hNV2 := hV.2.2.2.1
  obtain ⟨c, hc⟩ : ∃ c : Nat, S.2.1 7 = (c : Int) := ⟨(S.2.1 7).toNat, by omega⟩
  have ec : (S.2.1 7).toNat = c := by omega
  obtain ⟨m, hm⟩ : ∃ m : Nat, S.2.1 6 = (m : Int) := ⟨(S.2.1 6).toNat, by omega⟩
  have em : (S.2.1 6).toNat = m := by omega
  rw [em] at hN2 hNV2
  have e7 : σ 186 7 = (c : Int) := by rw [hD 7 (by omega), hc]
  have e6 : σ 186 6 = (m : Int) := by rw [hD 6 (by omega), hm]
  have et1 : t1S T L S = bnd (nxS (rBeg T L 20 c S.1)) (rPl T L S.2.2.2.1 m (-1)) := by unfold t1S; rw [ec, em]
  have et2 : t2S T L S = bnd (nxS (t1S T L S)) (rPl T L S.2.2.2.1 m (vaS (t1S T L S))) := by unfold t2S; rw [em]
  unfold m_X13_many sStreet
  rw [ec, show zI 7 = 7 from rfl, xck_of (by omega) (by omega), xj_eq, show (7 : Int).toNat = 7 from rfl, e7, zI_of (n := (c : Int)) (by omega) (by omega), show zI (m_X13_mostOf 7) = 20 from by decide, g2]
  by_cases cc : c < 20
  · rw [if_neg (by omega)]
    rw [beg_ok cc] at et1
    have et1' : t1S T L S = rPlc T L S.2.2.2.1 m (ntF T L S.1) := by
      rw [et1]
      exact rPl_none
    dsimp only
    rw [r_fineG hG, if_neg (by omega)]
    refine OK_bind (r_skipsWord hG hkd hn) (fun s6 h6 => ?_)
    obtain ⟨i1, i2⟩ := h6
    have e7' : s6 186 7 = (c : Int) := by rw [i2 _ _ (by omega), e7]
    have e6' : s6 186 6 = (m : Int) := by rw [i2 _ _ (by omega), e6]
    rw [xj_eq, if_neg (by omega), if_neg (by omega), if_neg (by omega), if_pos rfl]
    have hO : OK (m_X13_streetStatement n s6) (fun τ => rtS τ T L (nxS (bnd (nxS (t2S T L S)) (rNum T L 1 120))) ∧ (∀ q, bnd (nxS (t2S T L S)) (rNum T L 1 120) = .inr q → τ 186 (86 + 4 * c) = plR (vaS (t1S T L S)) ∧ τ 186 (86 + 4 * c + 1) = plR (vaS (t2S T L S)) ∧ τ 186 (86 + 4 * c + 2) = q.1) ∧ (∀ k i, ¬ (k = 186 ∧ 86 + 4 * c ≤ i ∧ i < 86 + 4 * c + 3) → ¬ (k = 184 ∧ (i = 11 ∨ i = 12 ∨ i = 13 ∨ i = 14)) → τ k i = s6 k i)) := by
      unfold m_X13_streetStatement
      rw [xck_of (by omega) (by omega), xlet_eq, show (7 : Int).toNat = 7 from rfl, e7']
      rw [show (86 : Int) + 4 * (c : Int) + 0 = ((86 + 4 * c : Nat) : Int) from by omega, show (86 : Int) + 4 * (c : Int) + 1 = ((86 + 4 * c + 1 : Nat) : Int) from by omega, show (86 : Int) + 4 * (c : Int) + 2 = ((86 + 4 * c + 2 : Nat) : Int) from by omega]
      refine OK_xbS (r_place (s := .inr (ntF T L S.1)) i1 (rtNm_f hN2 (fun j _ => i2 _ _ (by omega))) hNV2 (by omega) e6' hn) (fun u1 s2 h1 => ?_)
      obtain ⟨a1, a2, a4, a3⟩ := h1
      dsimp only at a1 a2 a3 a4
      have a1' : rtS s2 T L (nxS (t1S T L S)) := by rw [et1']; exact a1
      have a2' : ∀ q, t1S T L S = .inr q → u1 = plR q.1 := by rw [et1']; exact a2
      rw [zI_of (n := ((86 + 4 * c : Nat) : Int)) (by omega) (by omega), xck_of (by omega) (by omega), xlet_eq, tn_cast]
      have p1 : rtS (xput s2 186 (86 + 4 * c) u1) T L (nxS (t1S T L S)) := rtS_same a1' (fun i j hij => xput_ne (by omega))
      have q1 : ∀ i j, ¬ (i = 186 ∧ j = 86 + 4 * c) → ¬ (i = 184 ∧ (j = 11 ∨ j = 12 ∨ j = 13 ∨ j = 14)) → (xput s2 186 (86 + 4 * c) u1) i j = s6 i j := fun i j c1 c2 => by rw [xput_ne c1, a3 _ _ c2]
      have r1 : (xput s2 186 (86 + 4 * c) u1) 186 (86 + 4 * c) = u1 := xput_eq
      generalize xput s2 186 (86 + 4 * c) u1 = s3 at p1 q1 r1 ⊢
      rw [xlet_eq]
      refine OK_xbS (r_place p1 (rtNm_f hN2 (fun j _ => by rw [q1 _ _ (by omega) (by omega), i2 _ _ (by omega)])) hNV2 (by omega) (by rw [q1 _ _ (by omega) (by omega), e6']) hn) (fun u2 s5 h2 => ?_)
      obtain ⟨b1, b2, b4, b3⟩ := h2
      dsimp only at b1 b2 b3 b4
      rw [zI_of (n := ((86 + 4 * c + 1 : Nat) : Int)) (by omega) (by omega), xck_of (by omega) (by omega), xlet_eq, tn_cast]
      have p2 : rtS (xput s5 186 (86 + 4 * c + 1) u2) T L (nxS (bnd (nxS (t1S T L S)) (rPlc T L S.2.2.2.1 m))) := rtS_same b1 (fun i j hij => xput_ne (by omega))
      have q2 : ∀ i j, ¬ (i = 186 ∧ j = 86 + 4 * c + 1) → ¬ (i = 184 ∧ (j = 11 ∨ j = 12 ∨ j = 13 ∨ j = 14)) → (xput s5 186 (86 + 4 * c + 1) u2) i j = s3 i j := fun i j c1 c2 => by rw [xput_ne c1, b3 _ _ c2]
      have r2 : (xput s5 186 (86 + 4 * c + 1) u2) 186 (86 + 4 * c + 1) = u2 := xput_eq
      generalize xput s5 186 (86 + 4 * c + 1) u2 = s7 at p2 q2 r2 ⊢
      have w1 : s7 186 (86 + 4 * c) = u1 := by rw [q2 _ _ (by omega) (by omega), r1]
      rw [xck_of (by omega) (by omega), xck_of (by omega) (by omega), xj_eq, w1, r2, zI_of (n := u1) (by omega) (by omega), zI_of (n := u2) (by omega) (by omega)]
      -- behind the comparison
      have hmid : ∀ s9, rtS s9 T L (nxS (t2S T L S)) → (∀ q, t2S T L S = .inr q → u2 = plR q.1) → rtf s7 s9 → OK (xbS (m_X13_number n 1 120 s9) fun v14 s13 => xck ((86 + 4 * c + 2 : Nat) : Int) 289 <| xlet (xput s13 186 (86 + 4 * c + 2) v14) fun s15 => some s15) (fun τ => rtS τ T L (nxS (bnd (nxS (t2S T L S)) (rNum T L 1 120))) ∧ (∀ q, bnd (nxS (t2S T L S)) (rNum T L 1 120) = .inr q → τ 186 (86 + 4 * c) = plR (vaS (t1S T L S)) ∧ τ 186 (86 + 4 * c + 1) = plR (vaS (t2S T L S)) ∧ τ 186 (86 + 4 * c + 2) = q.1) ∧ (∀ k i, ¬ (k = 186 ∧ 86 + 4 * c ≤ i ∧ i < 86 + 4 * c + 3) → ¬ (k = 184 ∧ (i = 11 ∨ i = 12 ∨ i = 13 ∨ i = 14)) → τ k i = s6 k i)) := fun s9 k1 k2 k3 => by
        refine OK_xbS (r_number (lo := 1) (hi := 120) k1 (by omega) hn) (fun u3 s8 h3 => ?_)
        obtain ⟨d1, d2, d3⟩ := h3
        dsimp only at d1 d2 d3
        rw [xck_of (by omega) (by omega), xlet_eq]
        refine OK_some ⟨rtS_same d1 (fun i j hij => xput_ne (by omega)), fun q hq => ?_, fun i j c1 c2 => ?_⟩
        · obtain ⟨x2, hx2, -⟩ := bnd_inr hq
          obtain ⟨y2, hy2⟩ := nx_inr hx2
          have hy2' := hy2
          rw [et2] at hy2'
          obtain ⟨x1, hx1, -⟩ := bnd_inr hy2'
          obtain ⟨y1, hy1⟩ := nx_inr hx1
          rw [va_inr hy1, va_inr hy2]
          refine ⟨?_, ?_, ?_⟩
          · rw [xput_ne (by omega), d3 _ _ (by omega), k3 _ _ (by omega), w1]
            exact a2' _ hy1
          · rw [xput_ne (by omega), d3 _ _ (by omega), k3 _ _ (by omega), r2]
            exact k2 _ hy2
          · rw [xput_eq]
            exact d2 q hq
        · rw [xput_ne (by omega), d3 _ _ c2, k3 _ _ c2, q2 _ _ (by omega) c2, q1 _ _ (by omega) c2]
      cases ht1 : t1S T L S with
      | inl f =>
        have et2f : t2S T L S = .inl f := by rw [et2, ht1]; rfl
        rw [ht1] at p2
        have hX : rtX s7 T L f := p2
        have hfin := hmid s7 (by rw [et2f]; exact hX) (fun q z => by rw [et2f] at z; cases z) (fun _ _ _ => rfl)
        rw [ht1] at hfin
        by_cases e : u1 = u2
        · rw [if_pos e, r_faultyX hX, bind_some']
          dsimp only
          rw [zI_of (n := ((86 + 4 * c + 2 : Nat) : Int)) (by omega) (by omega), tn_cast]
          exact hfin
        · rw [if_neg e]
          dsimp only
          rw [zI_of (n := ((86 + 4 * c + 2 : Nat) : Int)) (by omega) (by omega), tn_cast]
          exact hfin
      | inr y1 =>
        have hu1 := a2' _ ht1
        have hy1 : y1.1 = 7 ∨ (0 ≤ y1.1 ∧ y1.1 < m) := by
          rw [et1'] at ht1
          exact plc_r ht1
        have hG3 : rtG s3 T L y1.2 := by
          rw [ht1] at p1
          exact p1
        rw [hG3.2.1]
        have et2' : t2S T L S = match rPlc T L S.2.2.2.1 m y1.2 with
            | .inl f => .inl f
            | .inr q => if q.1 = y1.1 then .inl (3, y1.2) else .inr q := by
          rw [et2, ht1]
          exact rPl_some
        rw [ht1] at p2 b2
        have p2' : rtS s7 T L (nxS (rPlc T L S.2.2.2.1 m y1.2)) := p2
        have b2' : ∀ q, rPlc T L S.2.2.2.1 m y1.2 = .inr q → u2 = plR q.1 := b2
        cases hc2 : rPlc T L S.2.2.2.1 m y1.2 with
        | inl f =>
          rw [hc2] at p2' et2'
          have hX : rtX s7 T L f := p2'
          have et2f : t2S T L S = .inl f := et2'
          have hfin := hmid s7 (by rw [et2f]; exact hX) (fun q z => by rw [et2f] at z; cases z) (fun _ _ _ => rfl)
          rw [ht1] at hfin
          by_cases e : u1 = u2
          · rw [if_pos e, r_faultyX hX, bind_some']
            dsimp only
            rw [zI_of (n := ((86 + 4 * c + 2 : Nat) : Int)) (by omega) (by omega), tn_cast]
            exact hfin
          · rw [if_neg e]
            dsimp only
            rw [zI_of (n := ((86 + 4 * c + 2 : Nat) : Int)) (by omega) (by omega), tn_cast]
            exact hfin
        | inr q =>
          rw [hc2] at p2' et2'
          have hG7 : rtG s7 T L q.2 := p2'
          have hu2 := b2' q hc2
          have hq := plc_r hc2
          have et2'' : t2S T L S = if q.1 = y1.1 then .inl (3, y1.2) else .inr q := et2'
          have hinj : u1 = u2 ↔ q.1 = y1.1 := by
            rw [hu1, hu2]
            unfold plR
            split <;> split <;> omega
          by_cases e : u1 = u2
          · rw [if_pos (hinj.mp e)] at et2''
            rw [if_pos e]
            refine OK_bind (r_faultyG hG7.1 ⟨_, hG7.2.1, hG7.2.2.1⟩ hG7.2.2.2.1 (c := 3) (q := y1.2) (by omega)) (fun u hu => ?_)
            have hfin := hmid u (by rw [et2'']; exact hu.1) (fun q z => by rw [et2''] at z; cases z) hu.2.1
            rw [ht1] at hfin
            dsimp only
            rw [zI_of (n := ((86 + 4 * c + 2 : Nat) : Int)) (by omega) (by omega), tn_cast]
            exact hfin
          · rw [if_neg (fun z => e (hinj.mpr z))] at et2''
            rw [if_neg e]
            have hfin := hmid s7 (by rw [et2'']; exact hG7) (fun q' z => by rw [et2''] at z; cases z; exact hu2) (fun _ _ _ => rfl)
            rw [ht1] at hfin
            dsimp only
            rw [zI_of (n := ((86 + 4 * c + 2 : Nat) : Int)) (by omega) (by omega), tn_cast]
            exact hfin
    refine OK_bind hO (fun s8 h8 => ?_)
    obtain ⟨a1, a2, a3⟩ := h8
    try dsimp only
    rw [xck_of (by omega) (by omega), xck_of (by omega) (by omega), xlet_eq]
    have e88 : s8 186 7 = (c : Int) := by rw [a3 _ _ (by omega) (by omega), e7']
    rw [e88]
    have hf : ∀ i j, ¬ (i = 186 ∧ (j = 7 ∨ (86 + 4 * c ≤ j ∧ j < 86 + 4 * c + 3))) → ¬ (i = 184 ∧ (j = 11 ∨ j = 12 ∨ j = 13 ∨ j = 14)) → (xput s8 186 7 ((c : Int) + 1)) i j = σ i j := fun i j c1 c2 => by
      rw [xput_ne (by omega), a3 _ _ (by omega) c2, i2 _ _ (by omega)]
    refine OK_some ⟨?_, fun i j c1 c2 => hf i j (by omega) (by omega)⟩
    have a1s : rtS (xput s8 186 7 ((c : Int) + 1)) T L (nxS (bnd (nxS (t2S T L S)) (rNum T L 1 120))) := rtS_same a1 (fun i j hij => xput_ne (by omega))
    cases hr : bnd (nxS (t2S T L S)) (rNum T L 1 120) with
    | inl f =>
      rw [hr] at a1s
      exact a1s
    | inr q =>
      rw [hr] at a1s
      obtain ⟨w0, w1, w2⟩ := a2 q hr
      refine ⟨a1s, fun i hi' => ?_, ?_, ?_, ?_⟩
      · show (xput s8 186 7 ((c : Int) + 1)) 186 i = stI (stI (stI (stI S.2.1 (86 + 4 * c) (plR (vaS (t1S T L S)))) (86 + 4 * c + 1) (plR (vaS (t2S T L S)))) (86 + 4 * c + 2) q.1) 7 (S.2.1 7 + 1) i
        by_cases c1 : i = 7
        · subst c1
          rw [xput_eq, stI_eq, hc]
        · rw [stI_ne c1]
          by_cases c2 : 86 + 4 * c ≤ i ∧ i < 86 + 4 * c + 3
          · rw [xput_ne (by omega)]
            have : i = 86 + 4 * c ∨ i = 86 + 4 * c + 1 ∨ i = 86 + 4 * c + 2 := by omega
            rcases this with rfl | rfl | rfl
            · rw [stI_ne (by omega), stI_ne (by omega), stI_eq, w0]
            · rw [stI_ne (by omega), stI_eq, w1]
            · rw [stI_eq, w2]
          · rw [stI_ne (by omega), stI_ne (by omega), stI_ne (by omega), hf _ _ (by omega) (by omega)]
            exact hD i hi'
      · show rtNm _ 190 T S.2.2.1 (stI (stI (stI (stI S.2.1 (86 + 4 * c) (plR (vaS (t1S T L S)))) (86 + 4 * c + 1) (plR (vaS (t2S T L S)))) (86 + 4 * c + 2) q.1) 7 (S.2.1 7 + 1) 4).toNat
        rw [stI_ne (by omega), stI_ne (by omega), stI_ne (by omega), stI_ne (by omega)]
        exact rtNm_f hN1 (fun j _ => hf _ _ (by omega) (by omega))
      · show rtNm _ 191 T S.2.2.2.1 (stI (stI (stI (stI S.2.1 (86 + 4 * c) (plR (vaS (t1S T L S)))) (86 + 4 * c + 1) (plR (vaS (t2S T L S)))) (86 + 4 * c + 2) q.1) 7 (S.2.1 7 + 1) 6).toNat
        rw [stI_ne (by omega), stI_ne (by omega), stI_ne (by omega), stI_ne (by omega), em]
        exact rtNm_f hN2 (fun j _ => hf _ _ (by omega) (by omega))
      · show (xput s8 186 7 ((c : Int) + 1)) 184 17 = gvF S.2.2.2.2
        rw [hf _ _ (by omega) (by omega)]
        exact hg
  · rw [if_pos (by omega)]
    rw [beg_full cc] at et1
    have x1 : t1S T L S = .inl (5, S.1) := et1
    have x2 : t2S T L S = .inl (5, S.1) := by rw [et2, x1]; rfl
    rw [x2]
    refine OK_bind (r_faultyG g1 ⟨_, g2, g3⟩ g4 (c := 5) (q := S.1) (by omega)) (fun u hu => ?_)
    dsimp only
    rw [r_fineX hu.1, if_pos rfl]
    exact OK_some ⟨hu.1, rtF_t hu.2.1⟩
end TX24
