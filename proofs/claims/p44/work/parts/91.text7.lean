/-! the class's parser: doughs -/
section TX7
variable {T : Nat → Int} {L p : Nat} {σ τ υ : xS} {n b : Nat} {s : RS0} {f : Int × Nat} {S : PSt} {δ δ' : Nat → Int}
/-- ten fields of a dough -/
theorem c_doughFields {K : Nat} {s1 : RS0} (h : CS σ T L s1) (hK : 6 ≤ K) (hn : 4000000 ≤ n) {ρ : Type} {F : xS → Option ρ} {Q : ρ → Prop}
    (hF : ∀ τ, CS τ T L (nxS ((flds T L dFl s1).getD 9 (.inl (0, 0)))) → ((∃ q, (flds T L dFl s1).getD 9 (.inl (0, 0)) = .inr q) → ∀ j, j < 10 → τ K j = vaS ((flds T L dFl s1).getD j (.inl (0, 0)))) → (∀ k j, ¬ (k = 2 ∧ (j = 7 ∨ j = 8)) → ¬ (k = 3 ∧ (j = 2 ∨ j = 3 ∨ j = 4)) → k ≠ K → τ k j = σ k j) → OK (F τ) Q) :
    OK (xbS (m_X7_readField n 5 1 120 σ) fun v0 y0 => xlet (xput y0 K 0 v0) fun x0 => xbS (m_X7_readField n 6 0 300 x0) fun v1 y1 => xlet (xput y1 K 1 v1) fun x1 => xbS (m_X7_readField n 7 1 120 x1) fun v2 y2 => xlet (xput y2 K 2 v2) fun x2 => xbS (m_X7_readField n 8 0 300 x2) fun v3 y3 => xlet (xput y3 K 3 v3) fun x3 => xbS (m_X7_readField n 9 0 240 x3) fun v4 y4 => xlet (xput y4 K 4 v4) fun x4 => xbS (m_X7_readField n 10 1 120 x4) fun v5 y5 => xlet (xput y5 K 5 v5) fun x5 => xbS (m_X7_readField n 11 100 300 x5) fun v6 y6 => xlet (xput y6 K 6 v6) fun x6 => xbS (m_X7_readField n 12 5 200 x6) fun v7 y7 => xlet (xput y7 K 7 v7) fun x7 => xbS (m_X7_readField n 13 1 1440 x7) fun v8 y8 => xlet (xput y8 K 8 v8) fun x8 => xbS (m_X7_readField n 14 0 999 x8) fun v9 y9 => xlet (xput y9 K 9 v9) fun x9 => F x9) Q := by
  refine c_fieldPut (w := 5) (lo := 1) (hi := 120) h (by omega) hK hn (fun t0 a0 d0 f0 => ?_)
  refine c_fieldPut (w := 6) (lo := 0) (hi := 300) a0 (by omega) hK hn (fun t1 a1 d1 f1 => ?_)
  refine c_fieldPut (w := 7) (lo := 1) (hi := 120) a1 (by omega) hK hn (fun t2 a2 d2 f2 => ?_)
  refine c_fieldPut (w := 8) (lo := 0) (hi := 300) a2 (by omega) hK hn (fun t3 a3 d3 f3 => ?_)
  refine c_fieldPut (w := 9) (lo := 0) (hi := 240) a3 (by omega) hK hn (fun t4 a4 d4 f4 => ?_)
  refine c_fieldPut (w := 10) (lo := 1) (hi := 120) a4 (by omega) hK hn (fun t5 a5 d5 f5 => ?_)
  refine c_fieldPut (w := 11) (lo := 100) (hi := 300) a5 (by omega) hK hn (fun t6 a6 d6 f6 => ?_)
  refine c_fieldPut (w := 12) (lo := 5) (hi := 200) a6 (by omega) hK hn (fun t7 a7 d7 f7 => ?_)
  refine c_fieldPut (w := 13) (lo := 1) (hi := 1440) a7 (by omega) hK hn (fun t8 a8 d8 f8 => ?_)
  refine c_fieldPut (w := 14) (lo := 0) (hi := 999) a8 (by omega) hK hn (fun t9 a9 d9 f9 => ?_)
  refine hF t9 a9 (fun hq j hj => ?_) (fun k j c1 c2 c3 => ?_)
  · obtain ⟨q9, hq9⟩ := hq
    obtain ⟨p9, hp9, -⟩ := bnd_inr (s := nxS (bnd (nxS (bnd (nxS (bnd (nxS (bnd (nxS (bnd (nxS (bnd (nxS (bnd (nxS (bnd (nxS (bnd s1 (rFld T L 5 1 120))) (rFld T L 6 0 300))) (rFld T L 7 1 120))) (rFld T L 8 0 300))) (rFld T L 9 0 240))) (rFld T L 10 1 120))) (rFld T L 11 100 300))) (rFld T L 12 5 200))) (rFld T L 13 1 1440))) hq9
    obtain ⟨w9, hq8⟩ := nx_inr hp9
    obtain ⟨p8, hp8, -⟩ := bnd_inr (s := nxS (bnd (nxS (bnd (nxS (bnd (nxS (bnd (nxS (bnd (nxS (bnd (nxS (bnd (nxS (bnd s1 (rFld T L 5 1 120))) (rFld T L 6 0 300))) (rFld T L 7 1 120))) (rFld T L 8 0 300))) (rFld T L 9 0 240))) (rFld T L 10 1 120))) (rFld T L 11 100 300))) (rFld T L 12 5 200))) hq8
    obtain ⟨w8, hq7⟩ := nx_inr hp8
    obtain ⟨p7, hp7, -⟩ := bnd_inr (s := nxS (bnd (nxS (bnd (nxS (bnd (nxS (bnd (nxS (bnd (nxS (bnd (nxS (bnd s1 (rFld T L 5 1 120))) (rFld T L 6 0 300))) (rFld T L 7 1 120))) (rFld T L 8 0 300))) (rFld T L 9 0 240))) (rFld T L 10 1 120))) (rFld T L 11 100 300))) hq7
    obtain ⟨w7, hq6⟩ := nx_inr hp7
    obtain ⟨p6, hp6, -⟩ := bnd_inr (s := nxS (bnd (nxS (bnd (nxS (bnd (nxS (bnd (nxS (bnd (nxS (bnd s1 (rFld T L 5 1 120))) (rFld T L 6 0 300))) (rFld T L 7 1 120))) (rFld T L 8 0 300))) (rFld T L 9 0 240))) (rFld T L 10 1 120))) hq6
    obtain ⟨w6, hq5⟩ := nx_inr hp6
    obtain ⟨p5, hp5, -⟩ := bnd_inr (s := nxS (bnd (nxS (bnd (nxS (bnd (nxS (bnd (nxS (bnd s1 (rFld T L 5 1 120))) (rFld T L 6 0 300))) (rFld T L 7 1 120))) (rFld T L 8 0 300))) (rFld T L 9 0 240))) hq5
    obtain ⟨w5, hq4⟩ := nx_inr hp5
    obtain ⟨p4, hp4, -⟩ := bnd_inr (s := nxS (bnd (nxS (bnd (nxS (bnd (nxS (bnd s1 (rFld T L 5 1 120))) (rFld T L 6 0 300))) (rFld T L 7 1 120))) (rFld T L 8 0 300))) hq4
    obtain ⟨w4, hq3⟩ := nx_inr hp4
    obtain ⟨p3, hp3, -⟩ := bnd_inr (s := nxS (bnd (nxS (bnd (nxS (bnd s1 (rFld T L 5 1 120))) (rFld T L 6 0 300))) (rFld T L 7 1 120))) hq3
    obtain ⟨w3, hq2⟩ := nx_inr hp3
    obtain ⟨p2, hp2, -⟩ := bnd_inr (s := nxS (bnd (nxS (bnd s1 (rFld T L 5 1 120))) (rFld T L 6 0 300))) hq2
    obtain ⟨w2, hq1⟩ := nx_inr hp2
    obtain ⟨p1, hp1, -⟩ := bnd_inr (s := nxS (bnd s1 (rFld T L 5 1 120))) hq1
    obtain ⟨w1, hq0⟩ := nx_inr hp1
    have j10 : j = 0 ∨ j = 1 ∨ j = 2 ∨ j = 3 ∨ j = 4 ∨ j = 5 ∨ j = 6 ∨ j = 7 ∨ j = 8 ∨ j = 9 := by omega
    rcases j10 with rfl | rfl | rfl | rfl | rfl | rfl | rfl | rfl | rfl | rfl
    · rw [f9 _ _ (by omega) (by omega) (by omega), f8 _ _ (by omega) (by omega) (by omega), f7 _ _ (by omega) (by omega) (by omega), f6 _ _ (by omega) (by omega) (by omega), f5 _ _ (by omega) (by omega) (by omega), f4 _ _ (by omega) (by omega) (by omega), f3 _ _ (by omega) (by omega) (by omega), f2 _ _ (by omega) (by omega) (by omega), f1 _ _ (by omega) (by omega) (by omega), d0 _ hq0]
      rfl
    · rw [f9 _ _ (by omega) (by omega) (by omega), f8 _ _ (by omega) (by omega) (by omega), f7 _ _ (by omega) (by omega) (by omega), f6 _ _ (by omega) (by omega) (by omega), f5 _ _ (by omega) (by omega) (by omega), f4 _ _ (by omega) (by omega) (by omega), f3 _ _ (by omega) (by omega) (by omega), f2 _ _ (by omega) (by omega) (by omega), d1 _ hq1]
      rfl
    · rw [f9 _ _ (by omega) (by omega) (by omega), f8 _ _ (by omega) (by omega) (by omega), f7 _ _ (by omega) (by omega) (by omega), f6 _ _ (by omega) (by omega) (by omega), f5 _ _ (by omega) (by omega) (by omega), f4 _ _ (by omega) (by omega) (by omega), f3 _ _ (by omega) (by omega) (by omega), d2 _ hq2]
      rfl
    · rw [f9 _ _ (by omega) (by omega) (by omega), f8 _ _ (by omega) (by omega) (by omega), f7 _ _ (by omega) (by omega) (by omega), f6 _ _ (by omega) (by omega) (by omega), f5 _ _ (by omega) (by omega) (by omega), f4 _ _ (by omega) (by omega) (by omega), d3 _ hq3]
      rfl
    · rw [f9 _ _ (by omega) (by omega) (by omega), f8 _ _ (by omega) (by omega) (by omega), f7 _ _ (by omega) (by omega) (by omega), f6 _ _ (by omega) (by omega) (by omega), f5 _ _ (by omega) (by omega) (by omega), d4 _ hq4]
      rfl
    · rw [f9 _ _ (by omega) (by omega) (by omega), f8 _ _ (by omega) (by omega) (by omega), f7 _ _ (by omega) (by omega) (by omega), f6 _ _ (by omega) (by omega) (by omega), d5 _ hq5]
      rfl
    · rw [f9 _ _ (by omega) (by omega) (by omega), f8 _ _ (by omega) (by omega) (by omega), f7 _ _ (by omega) (by omega) (by omega), d6 _ hq6]
      rfl
    · rw [f9 _ _ (by omega) (by omega) (by omega), f8 _ _ (by omega) (by omega) (by omega), d7 _ hq7]
      rfl
    · rw [f9 _ _ (by omega) (by omega) (by omega), d8 _ hq8]
      rfl
    · rw [d9 _ hq9]
      rfl
  · rw [f9 _ _ c1 c2 (by omega), f8 _ _ c1 c2 (by omega), f7 _ _ c1 c2 (by omega), f6 _ _ c1 c2 (by omega), f5 _ _ c1 c2 (by omega), f4 _ _ c1 c2 (by omega), f3 _ _ c1 c2 (by omega), f2 _ _ c1 c2 (by omega), f1 _ _ c1 c2 (by omega), f0 _ _ c1 c2 (by omega)]
theorem c_readDough (h : PSC σ b T L S) (hV : PSV T L S) (hb : 6 ≤ b) (hn : 4000000 ≤ n) : OK (m_X7_readDough n b σ) (fun τ => PRC τ b T L (sDough T L S) ∧ pfB b σ τ) := by
  obtain ⟨hG, hB, hN1, hN2, hg⟩ := h
  obtain ⟨hV1, hV0, hNV1, hNV2, hgv, -⟩ := hV
  have v4 := hV1.2.2.2.2.1
  have v5 := hV1.2.2.2.2.2.1
  have v7 := hV1.2.2.2.2.2.2.2.1
  have v8 := hV1.2.2.2.2.2.2.2.2.1
  have v9 := hV1.2.2.2.2.2.2.2.2.2.1
  obtain ⟨b0, b1, b2, b3, b4, b5, b6, b7, b8, b9, bd, bo, bs, bv, br⟩ := hB
  obtain ⟨c, hc⟩ : ∃ c : Nat, S.2.1 4 = (c : Int) := ⟨(S.2.1 4).toNat, by omega⟩
  have ec : (S.2.1 4).toNat = c := by omega
  rw [ec] at hN1 hNV1
  unfold m_X7_readDough
  rw [xlet_eq, b4, hc]
  refine OK_bind (c_beginOneOf (most := 6) (cnt := c) hG (by omega) hn) (fun s1 h1 => ?_)
  refine OK_bind (c_readNewName (z1 := 6) (k1 := 4) (cnt := c) h1.1 (CN_same hN1 (fun j _ => h1.2 _ _ (by omega) (by omega))) hNV1 (by omega) (fun q e => beg_lt (s := .inr 0) e) (Or.inl rfl) hn) (fun s2 h2 => ?_)
  obtain ⟨r1, r2, r3⟩ := h2
  have hfr0 : ∀ k j, ¬ (k = 2 ∧ (j = 7 ∨ j = 8)) → ¬ (k = 3 ∧ (j = 2 ∨ j = 3 ∨ j = 4)) → ¬ (k = 4 ∧ j = c) → s2 k j = σ k j := fun k j c1 c2 c3 => by rw [r3 k j c1 c2 c3, h1.2 _ _ c1 c2]
  have eR : dRs T L S = flds T L dFl (nxS (bnd (nxS (rBeg T L 6 c S.1)) (rNew T L S.2.2.1 c))) := by unfold dRs dSt; rw [ec]
  unfold sDough
  rw [eR, ec]
  cases hr : bnd (nxS (rBeg T L 6 c S.1)) (rNew T L S.2.2.1 c) with
  | inl g =>
    rw [hr] at r1
    have gx : CX s2 T L g := r1
    rw [c_failX gx, if_neg (by omega)]
    exact OK_some ⟨gx, fun k j c1 c2 => hfr0 k j (by omega) (by omega) (by omega)⟩
  | inr qq =>
    rw [hr] at r1
    have gg : CG s2 T L qq.2 := r1
    have hlt := beg_r hr
    obtain ⟨q0, hq0, hq1⟩ := bnd_inr hr
    have hnew : nmB T L q0 = true ∧ ¬ ixN T L S.2.2.1 c q0 < c := by
      unfold rNew at hq1
      split at hq1
      · rename_i z
        split at hq1
        · cases hq1
        · rename_i z2
          exact ⟨z, z2⟩
      · cases hq1
    have hw := r2 q0 hq0 hnew.1 hnew.2
    rw [c_failG gg, if_pos rfl, zI_of (n := (c : Int)) (by omega) (by omega), xck_of (by omega) (by omega), hq0]
    simp only [tn_cast]
    refine c_doughFields (K := b + 2 + c) r1 (by omega) hn (fun t3 a3 hval f3 => ?_)
    rw [xlet_eq]
    have e5 : t3 b 5 = (c : Int) := by rw [f3 _ _ (by omega) (by omega) (by omega), hfr0 _ _ (by omega) (by omega) (by omega), b4, hc]
    have hfr : ∀ k j, ¬ (k = 2 ∧ (j = 7 ∨ j = 8)) → ¬ (k = 3 ∧ (j = 2 ∨ j = 3 ∨ j = 4)) → ¬ (k = 4 ∧ j = c) → k ≠ b + 2 + c → ¬ (k = b ∧ j = 5) → (xput t3 b 5 (t3 b 5 + 1)) k j = σ k j := fun k j c1 c2 c3 c4 c5 => by
      rw [xput_ne c5, f3 _ _ c1 c2 c4]
      exact hfr0 k j c1 c2 c3
    have e5' : (xput t3 b 5 (t3 b 5 + 1)) b 5 = (c : Int) + 1 := by rw [xput_eq, e5]
    have er : ∀ j, (xput t3 b 5 (t3 b 5 + 1)) (b + 2 + c) j = t3 (b + 2 + c) j := fun j => by rw [xput_ne (by omega)]
    have ew : (xput t3 b 5 (t3 b 5 + 1)) 4 c = dgF 32 T q0 (enF T L q0 - q0) := by rw [xput_ne (by omega), f3 _ _ (by omega) (by omega) (by omega)]; exact hw
    have hCS0 := CS_same (τ := xput t3 b 5 (t3 b 5 + 1)) a3 (fun k j hkj => by rw [xput_ne (by omega)])
    generalize xput t3 b 5 (t3 b 5 + 1) = τ at hfr e5' er ew hCS0 ⊢
    refine OK_some ⟨?_, fun k j c1 c2 => hfr k j (by omega) (by omega) (by omega) (by omega) (by omega)⟩
    have hs1 : nxS (.inr qq : RS1) = .inr qq.2 := rfl
    rw [hs1]
    replace hCS0 : CS τ T L (nxS ((flds T L dFl (.inr qq.2)).getD 9 (.inl (0, 0)))) := hCS0
    replace hval : (∃ q, (flds T L dFl (.inr qq.2)).getD 9 (.inl (0, 0)) = .inr q) → ∀ j, j < 10 → t3 (b + 2 + c) j = vaS ((flds T L dFl (.inr qq.2)).getD j (.inl (0, 0))) := hval
    cases hr9 : (flds T L dFl (.inr qq.2)).getD 9 (.inl (0, 0)) with
    | inl g =>
      rw [hr9] at hCS0
      exact hCS0
    | inr q =>
      rw [hr9] at hCS0
      have hCS : CG τ T L q.2 := hCS0
      have hvals := hval ⟨q, hr9⟩
      show PSC5 τ b T L q.2 (stI (rowI S.2.1 (10 + 10 * c) 10 (flds T L dFl (.inr qq.2))) 4 (S.2.1 4 + 1)) (stN S.2.2.1 c (q0, enF T L q0 - q0)) S.2.2.2.1 S.2.2.2.2
      have hd : ∀ i, i ≠ 4 → ¬ (10 + 10 * c ≤ i ∧ i < 10 + 10 * c + 10) → stI (rowI S.2.1 (10 + 10 * c) 10 (flds T L dFl (.inr qq.2))) 4 (S.2.1 4 + 1) i = S.2.1 i := fun i a1 a2 => by
        rw [stI_ne a1]
        unfold rowI
        rw [if_neg a2]
      have hd4 : stI (rowI S.2.1 (10 + 10 * c) 10 (flds T L dFl (.inr qq.2))) 4 (S.2.1 4 + 1) 4 = S.2.1 4 + 1 := stI_eq
      have hdr : ∀ j, j < 10 → stI (rowI S.2.1 (10 + 10 * c) 10 (flds T L dFl (.inr qq.2))) 4 (S.2.1 4 + 1) (10 + 10 * c + j) = vaS ((flds T L dFl (.inr qq.2)).getD j (.inl (0, 0))) := fun j hj => by
        rw [stI_ne (by omega)]
        unfold rowI
        rw [if_pos (by omega), show 10 + 10 * c + j - (10 + 10 * c) = j by omega]
      generalize stI (rowI S.2.1 (10 + 10 * c) 10 (flds T L dFl (.inr qq.2))) 4 (S.2.1 4 + 1) = D at hd hd4 hdr ⊢
      refine ⟨hCS, ⟨?_, ?_, ?_, ?_, ?_, ?_, ?_, ?_, ?_, ?_, ?_, ?_, ?_, ?_, ?_⟩, ?_, ?_, fun i hi => ?_⟩
      · rw [hfr _ _ (by omega) (by omega) (by omega) (by omega) (by omega), hd _ (by omega) (by omega)]; exact b0
      · rw [hfr _ _ (by omega) (by omega) (by omega) (by omega) (by omega), hd _ (by omega) (by omega)]; exact b1
      · rw [hfr _ _ (by omega) (by omega) (by omega) (by omega) (by omega), hd _ (by omega) (by omega)]; exact b2
      · rw [hfr _ _ (by omega) (by omega) (by omega) (by omega) (by omega), hd _ (by omega) (by omega)]; exact b3
      · rw [e5', hd4, hc]
      · rw [hfr _ _ (by omega) (by omega) (by omega) (by omega) (by omega), hd _ (by omega) (by omega)]; exact b5
      · rw [hfr _ _ (by omega) (by omega) (by omega) (by omega) (by omega), hd _ (by omega) (by omega)]; exact b6
      · rw [hfr _ _ (by omega) (by omega) (by omega) (by omega) (by omega), hd _ (by omega) (by omega)]; exact b7
      · rw [hfr _ _ (by omega) (by omega) (by omega) (by omega) (by omega), hd _ (by omega) (by omega)]; exact b8
      · rw [hfr _ _ (by omega) (by omega) (by omega) (by omega) (by omega), hd _ (by omega) (by omega)]; exact b9
      · intro d hd' w hw'
        rw [hd4, hc] at hd'
        by_cases e : d = c
        · subst e
          rw [er, hvals w hw']
          exact (hdr w hw').symm
        · rw [hfr _ _ (by omega) (by omega) (by omega) (by omega) (by omega), bd d (by omega) w hw']
          exact (hd _ (by omega) (by omega)).symm
      · exact keepO bo v5.2 (hd _ (by omega) (by omega)) (fun i j c1 c2 => hfr _ _ (by omega) (by omega) (by omega) (by omega) (by omega)) (fun i c1 c2 => hd i (by omega) (by omega))
      · exact keepS bs v7.2 (hd _ (by omega) (by omega)) (fun i j c1 c2 => hfr _ _ (by omega) (by omega) (by omega) (by omega) (by omega)) (fun i c1 c2 => hd i (by omega) (by omega))
      · exact keepV bv v8.2 (hd _ (by omega) (by omega)) (fun j => hfr _ _ (by omega) (by omega) (by omega) (by omega) (by omega)) (fun i c1 c2 => hd i (by omega) (by omega))
      · exact keepR br v9.2 (hd _ (by omega) (by omega)) (fun i j c1 c2 => hfr _ _ (by omega) (by omega) (by omega) (by omega) (by omega)) (fun i c1 c2 => hd i (by omega) (by omega))
      · rw [hd4, hc]
        intro i hi
        by_cases e : i = c
        · rw [e, ew]
          unfold stN
          rw [if_pos rfl]
        · rw [hfr _ _ (by omega) (by omega) (by omega) (by omega) (by omega), hN1 i (by omega)]
          unfold stN
          rw [if_neg e]
      · rw [hd 6 (by omega) (by omega)]
        exact CN_same hN2 (fun j _ => hfr _ _ (by omega) (by omega) (by omega) (by omega) (by omega))
      · rw [hfr _ _ (by omega) (by omega) (by omega) (by omega) (by omega)]
        exact hg i hi
end TX7
