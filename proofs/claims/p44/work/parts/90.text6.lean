/-! the class's parser: vans, shops, ovens -/
section TX6
variable {T : Nat → Int} {L p : Nat} {σ τ υ : xS} {n b : Nat} {s : RS0} {f : Int × Nat} {S : PSt} {δ δ' : Nat → Int}
theorem beg_lt {most cnt q : Nat} {s : RS0} (h : nxS (rBeg T L most cnt p) = .inr q) : cnt < most := by
  unfold rBeg at h
  by_cases c : cnt < most
  · exact c
  · rw [if_neg c] at h
    cases h
theorem bnd_inr {s : RS0} {g : Nat → RS1} {q : Int × Nat} (h : bnd s g = .inr q) : ∃ q0, s = .inr q0 ∧ g q0 = .inr q := by
  cases s with
  | inl f => cases h
  | inr q0 => exact ⟨q0, rfl, h⟩
theorem nx_inr {r : RS1} {q : Nat} (h : nxS r = .inr q) : ∃ v, r = .inr (v, q) := by
  cases r with
  | inl f => cases h
  | inr x => cases h; exact ⟨x.1, rfl⟩
theorem beg_r {most cnt : Nat} {g : Nat → RS1} {q : Int × Nat} (h : bnd (nxS (rBeg T L most cnt p)) g = .inr q) : cnt < most := by
  obtain ⟨q0, h1, h2⟩ := bnd_inr h
  exact beg_lt (s := .inr 0) h1
theorem beg_0 {most cnt : Nat} (h : cnt < most) : nxS (rBeg T L most cnt p) = .inr (ntF T L p) := by
  unfold rBeg
  rw [if_pos h]
  rfl
theorem c_readVan (h : PSC σ b T L S) (hV : PSV T L S) (hb : 6 ≤ b) (hn : 4000000 ≤ n) : OK (m_X7_readVan n b σ) (fun τ => PRC τ b T L (sVan T L S) ∧ pfB b σ τ) := by
  obtain ⟨hG, hB, hN1, hN2, hg⟩ := h
  obtain ⟨hV1, hV0, hNV1, hNV2, hgv, -⟩ := hV
  have v4 := hV1.2.2.2.2.1
  have v5 := hV1.2.2.2.2.2.1
  have v7 := hV1.2.2.2.2.2.2.2.1
  have v8 := hV1.2.2.2.2.2.2.2.2.1
  have v9 := hV1.2.2.2.2.2.2.2.2.2.1
  obtain ⟨b0, b1, b2, b3, b4, b5, b6, b7, b8, b9, bd, bo, bs, bv, br⟩ := hB
  obtain ⟨c, hc⟩ : ∃ c : Nat, S.2.1 8 = (c : Int) := ⟨(S.2.1 8).toNat, by omega⟩
  have ec : (S.2.1 8).toNat = c := by omega
  unfold m_X7_readVan
  rw [b8, hc]
  refine OK_bind (c_beginOneOf (most := 3) (cnt := c) hG (by omega) hn) (fun s1 h1 => ?_)
  refine OK_xbS (c_readNumber (lo := 1) (hi := 2000) h1.1 (by omega) hn) (fun v s2 h2 => ?_)
  obtain ⟨⟨r1, r2⟩, r3⟩ := h2
  dsimp only at r1 r2 r3
  have hp := pfC_trans h1.2 r3
  unfold sVan
  rw [ec, xj_eq]
  cases hr : bnd (nxS (rBeg T L 3 c S.1)) (rNum T L 1 2000) with
  | inl g =>
    rw [hr] at r1
    have gx : CX s2 T L g := r1
    rw [c_failX gx, if_neg (by omega)]
    exact OK_some ⟨gx, fun k j c1 c2 => hp k j (by omega) (by omega)⟩
  | inr q =>
    rw [hr] at r1
    have gg : CG s2 T L q.2 := r1
    have hv := r2 q hr
    have hlt := beg_r hr
    have e11 : s2 b 11 = (c : Int) := by rw [hp _ _ (by omega) (by omega), b8, hc]
    rw [c_failG gg, if_pos rfl]
    simp only [e11]
    rw [zI_of (n := (c : Int)) (by omega) (by omega), xck_of (by omega) (by omega), xlet_eq, xlet_eq, tn_cast, hv]
    have hfr : ∀ k j, ¬ (k = 2 ∧ (j = 7 ∨ j = 8)) → ¬ (k = 3 ∧ (j = 2 ∨ j = 3 ∨ j = 4)) → ¬ (k = b + 38 ∧ j = c) → ¬ (k = b ∧ j = 11) → (xput (xput s2 (b + 38) c q.1) b 11 ((xput s2 (b + 38) c q.1) b 11 + 1)) k j = σ k j := fun k j c1 c2 c3 c4 => by
      rw [xput_ne c4, xput_ne c3]
      exact hp k j c1 c2
    have e38 : (xput (xput s2 (b + 38) c q.1) b 11 ((xput s2 (b + 38) c q.1) b 11 + 1)) (b + 38) c = q.1 := by rw [xput_ne (by omega), xput_eq]
    have e11' : (xput (xput s2 (b + 38) c q.1) b 11 ((xput s2 (b + 38) c q.1) b 11 + 1)) b 11 = (c : Int) + 1 := by rw [xput_eq, xput_ne (by omega), e11]
    have hCS : CG (xput (xput s2 (b + 38) c q.1) b 11 ((xput s2 (b + 38) c q.1) b 11 + 1)) T L q.2 := CS_same (s := .inr q.2) gg (fun k j hkj => by rw [xput_ne (by omega), xput_ne (by omega)])
    generalize xput (xput s2 (b + 38) c q.1) b 11 ((xput s2 (b + 38) c q.1) b 11 + 1) = τ at hfr e38 e11' hCS
    have hd : ∀ i, i ≠ 8 → i ≠ 166 + c → stI (stI S.2.1 (166 + c) q.1) 8 (S.2.1 8 + 1) i = S.2.1 i := fun i a1 a2 => by rw [stI_ne a1, stI_ne a2]
    have hd8 : stI (stI S.2.1 (166 + c) q.1) 8 (S.2.1 8 + 1) 8 = S.2.1 8 + 1 := stI_eq
    have hdv : stI (stI S.2.1 (166 + c) q.1) 8 (S.2.1 8 + 1) (166 + c) = q.1 := by rw [stI_ne (by omega), stI_eq]
    refine OK_some ⟨?_, fun k j c1 c2 => hfr k j (by omega) (by omega) (by omega) (by omega)⟩
    show PSC5 τ b T L q.2 (stI (stI S.2.1 (166 + c) q.1) 8 (S.2.1 8 + 1)) S.2.2.1 S.2.2.2.1 S.2.2.2.2
    generalize stI (stI S.2.1 (166 + c) q.1) 8 (S.2.1 8 + 1) = D at hd hd8 hdv ⊢
    refine ⟨hCS, ⟨?_, ?_, ?_, ?_, ?_, ?_, ?_, ?_, ?_, ?_, ?_, ?_, ?_, ?_, ?_⟩, ?_, ?_, fun i hi => ?_⟩
    · rw [hfr _ _ (by omega) (by omega) (by omega) (by omega), hd _ (by omega) (by omega)]; exact b0
    · rw [hfr _ _ (by omega) (by omega) (by omega) (by omega), hd _ (by omega) (by omega)]; exact b1
    · rw [hfr _ _ (by omega) (by omega) (by omega) (by omega), hd _ (by omega) (by omega)]; exact b2
    · rw [hfr _ _ (by omega) (by omega) (by omega) (by omega), hd _ (by omega) (by omega)]; exact b3
    · rw [hfr _ _ (by omega) (by omega) (by omega) (by omega), hd _ (by omega) (by omega)]; exact b4
    · rw [hfr _ _ (by omega) (by omega) (by omega) (by omega), hd _ (by omega) (by omega)]; exact b5
    · rw [hfr _ _ (by omega) (by omega) (by omega) (by omega), hd _ (by omega) (by omega)]; exact b6
    · rw [hfr _ _ (by omega) (by omega) (by omega) (by omega), hd _ (by omega) (by omega)]; exact b7
    · rw [e11', hd8, hc]
    · rw [hfr _ _ (by omega) (by omega) (by omega) (by omega), hd _ (by omega) (by omega)]; exact b9
    · exact keepD bd v4.2 (hd _ (by omega) (by omega)) (fun i j c1 c2 => hfr _ _ (by omega) (by omega) (by omega) (by omega)) (fun i c1 c2 => hd i (by omega) (by omega))
    · exact keepO bo v5.2 (hd _ (by omega) (by omega)) (fun i j c1 c2 => hfr _ _ (by omega) (by omega) (by omega) (by omega)) (fun i c1 c2 => hd i (by omega) (by omega))
    · exact keepS bs v7.2 (hd _ (by omega) (by omega)) (fun i j c1 c2 => hfr _ _ (by omega) (by omega) (by omega) (by omega)) (fun i c1 c2 => hd i (by omega) (by omega))
    · intro v hv'
      rw [hd8, hc] at hv'
      by_cases e : v = c
      · subst e
        rw [e38]
        show q.1 = D (166 + v) + (if v = 0 then 0 else 0)
        rw [hdv]
        split <;> omega
      · rw [hfr _ _ (by omega) (by omega) (by omega) (by omega), bv v (by omega), show vnF D v = vnF S.2.1 v from hd _ (by omega) (by omega)]
    · exact keepR br v9.2 (hd _ (by omega) (by omega)) (fun i j c1 c2 => hfr _ _ (by omega) (by omega) (by omega) (by omega)) (fun i c1 c2 => hd i (by omega) (by omega))
    · rw [hd 4 (by omega) (by omega)]
      exact CN_same hN1 (fun j _ => hfr _ _ (by omega) (by omega) (by omega) (by omega))
    · rw [hd 6 (by omega) (by omega)]
      exact CN_same hN2 (fun j _ => hfr _ _ (by omega) (by omega) (by omega) (by omega))
    · rw [hfr _ _ (by omega) (by omega) (by omega) (by omega)]
      exact hg i hi
theorem c_readShop (h : PSC σ b T L S) (hV : PSV T L S) (hb : 6 ≤ b) (hn : 4000000 ≤ n) : OK (m_X7_readShop n b σ) (fun τ => PRC τ b T L (sShop T L S) ∧ pfB b σ τ) := by
  obtain ⟨hG, hB, hN1, hN2, hg⟩ := h
  obtain ⟨hV1, hV0, hNV1, hNV2, hgv, -⟩ := hV
  have v4 := hV1.2.2.2.2.1
  have v5 := hV1.2.2.2.2.2.1
  have v6 := hV1.2.2.2.2.2.2.1
  have v7 := hV1.2.2.2.2.2.2.2.1
  have v8 := hV1.2.2.2.2.2.2.2.2.1
  have v9 := hV1.2.2.2.2.2.2.2.2.2.1
  obtain ⟨b0, b1, b2, b3, b4, b5, b6, b7, b8, b9, bd, bo, bs, bv, br⟩ := hB
  obtain ⟨c, hc⟩ : ∃ c : Nat, S.2.1 6 = (c : Int) := ⟨(S.2.1 6).toNat, by omega⟩
  have ec : (S.2.1 6).toNat = c := by omega
  rw [ec] at hN2 hNV2
  unfold m_X7_readShop
  rw [b6, hc]
  refine OK_bind (c_beginOneOf (most := 7) (cnt := c) hG (by omega) hn) (fun s1 h1 => ?_)
  have e18 : s1 b 8 = (c : Int) := by rw [h1.2 _ _ (by omega) (by omega), b6, hc]
  rw [e18]
  refine OK_bind (c_readNewName (z1 := 7) (k1 := 5) (cnt := c) h1.1 (CN_same hN2 (fun j _ => h1.2 _ _ (by omega) (by omega))) hNV2 (by omega) (fun q e => beg_lt (s := .inr 0) e) (Or.inr rfl) hn) (fun s2 h2 => ?_)
  obtain ⟨r1, r2, r3⟩ := h2
  have hfr0 : ∀ k j, ¬ (k = 2 ∧ (j = 7 ∨ j = 8)) → ¬ (k = 3 ∧ (j = 2 ∨ j = 3 ∨ j = 4)) → ¬ (k = 5 ∧ j = c) → s2 k j = σ k j := fun k j c1 c2 c3 => by rw [r3 k j c1 c2 c3, h1.2 _ _ c1 c2]
  unfold sShop
  rw [ec, xj_eq]
  cases hr : bnd (nxS (rBeg T L 7 c S.1)) (rNew T L S.2.2.2.1 c) with
  | inl g =>
    rw [hr] at r1
    have gx : CX s2 T L g := r1
    rw [c_failX gx, if_neg (by omega)]
    exact OK_some ⟨gx, fun k j c1 c2 => hfr0 k j (by omega) (by omega) (by omega)⟩
  | inr q =>
    rw [hr] at r1
    have gg : CG s2 T L q.2 := r1
    have hlt := beg_r hr
    obtain ⟨q0, hq0, hq1⟩ := bnd_inr hr
    have hnew : nmB T L q0 = true ∧ ¬ ixN T L S.2.2.2.1 c q0 < c := by
      unfold rNew at hq1
      split at hq1
      · rename_i z
        split at hq1
        · cases hq1
        · rename_i z2
          exact ⟨z, z2⟩
      · cases hq1
    have hw := r2 q0 hq0 hnew.1 hnew.2
    have e8 : s2 b 8 = (c : Int) := by rw [hfr0 _ _ (by omega) (by omega) (by omega), b6, hc]
    rw [c_failG gg, if_pos rfl, xlet_eq, e8]
    have hfr : ∀ k j, ¬ (k = 2 ∧ (j = 7 ∨ j = 8)) → ¬ (k = 3 ∧ (j = 2 ∨ j = 3 ∨ j = 4)) → ¬ (k = 5 ∧ j = c) → ¬ (k = b ∧ j = 8) → (xput s2 b 8 ((c : Int) + 1)) k j = σ k j := fun k j c1 c2 c3 c4 => by
      rw [xput_ne c4]
      exact hfr0 k j c1 c2 c3
    have e8' : (xput s2 b 8 ((c : Int) + 1)) b 8 = (c : Int) + 1 := xput_eq
    have ew : (xput s2 b 8 ((c : Int) + 1)) 5 c = dgF 32 T q0 (enF T L q0 - q0) := by rw [xput_ne (by omega)]; exact hw
    have hCS : CG (xput s2 b 8 ((c : Int) + 1)) T L q.2 := CS_same (s := .inr q.2) gg (fun k j hkj => by rw [xput_ne (by omega)])
    generalize xput s2 b 8 ((c : Int) + 1) = τ at hfr e8' ew hCS
    have hd : ∀ i, i ≠ 6 → stI S.2.1 6 (S.2.1 6 + 1) i = S.2.1 i := fun i a1 => stI_ne a1
    have hd6 : stI S.2.1 6 (S.2.1 6 + 1) 6 = S.2.1 6 + 1 := stI_eq
    refine OK_some ⟨?_, fun k j c1 c2 => hfr k j (by omega) (by omega) (by omega) (by omega)⟩
    rw [hq0]
    show PSC5 τ b T L q.2 (stI S.2.1 6 (S.2.1 6 + 1)) S.2.2.1 (stN S.2.2.2.1 c (q0, enF T L q0 - q0)) S.2.2.2.2
    generalize stI S.2.1 6 (S.2.1 6 + 1) = D at hd hd6 ⊢
    refine ⟨hCS, ⟨?_, ?_, ?_, ?_, ?_, ?_, ?_, ?_, ?_, ?_, ?_, ?_, ?_, ?_, ?_⟩, ?_, ?_, fun i hi => ?_⟩
    · rw [hfr _ _ (by omega) (by omega) (by omega) (by omega), hd _ (by omega)]; exact b0
    · rw [hfr _ _ (by omega) (by omega) (by omega) (by omega), hd _ (by omega)]; exact b1
    · rw [hfr _ _ (by omega) (by omega) (by omega) (by omega), hd _ (by omega)]; exact b2
    · rw [hfr _ _ (by omega) (by omega) (by omega) (by omega), hd _ (by omega)]; exact b3
    · rw [hfr _ _ (by omega) (by omega) (by omega) (by omega), hd _ (by omega)]; exact b4
    · rw [hfr _ _ (by omega) (by omega) (by omega) (by omega), hd _ (by omega)]; exact b5
    · rw [e8', hd6, hc]
    · rw [hfr _ _ (by omega) (by omega) (by omega) (by omega), hd _ (by omega)]; exact b7
    · rw [hfr _ _ (by omega) (by omega) (by omega) (by omega), hd _ (by omega)]; exact b8
    · rw [hfr _ _ (by omega) (by omega) (by omega) (by omega), hd _ (by omega)]; exact b9
    · exact keepD bd v4.2 (hd _ (by omega)) (fun i j c1 c2 => hfr _ _ (by omega) (by omega) (by omega) (by omega)) (fun i c1 c2 => hd i (by omega))
    · exact keepO bo v5.2 (hd _ (by omega)) (fun i j c1 c2 => hfr _ _ (by omega) (by omega) (by omega) (by omega)) (fun i c1 c2 => hd i (by omega))
    · exact keepS bs v7.2 (hd _ (by omega)) (fun i j c1 c2 => hfr _ _ (by omega) (by omega) (by omega) (by omega)) (fun i c1 c2 => hd i (by omega))
    · exact keepV bv v8.2 (hd _ (by omega)) (fun j => hfr _ _ (by omega) (by omega) (by omega) (by omega)) (fun i c1 c2 => hd i (by omega))
    · exact keepR br v9.2 (hd _ (by omega)) (fun i j c1 c2 => hfr _ _ (by omega) (by omega) (by omega) (by omega)) (fun i c1 c2 => hd i (by omega))
    · rw [hd 4 (by omega)]
      exact CN_same hN1 (fun j _ => hfr _ _ (by omega) (by omega) (by omega) (by omega))
    · rw [hd6, hc]
      intro i hi
      by_cases e : i = c
      · rw [e, ew]
        unfold stN
        rw [if_pos rfl]
      · rw [hfr _ _ (by omega) (by omega) (by omega) (by omega), hN2 i (by omega)]
        unfold stN
        rw [if_neg e]
    · rw [hfr _ _ (by omega) (by omega) (by omega) (by omega)]
      exact hg i hi
/-- a field read, and put -/
theorem c_fieldPut {w : Nat} {lo hi : Int} {K J : Nat} (h : CS σ T L s) (hlo : 0 ≤ lo ∧ lo ≤ hi ∧ hi ≤ 10000) (hK : 6 ≤ K) (hn : 4000000 ≤ n) {ρ : Type} {F : xS → Option ρ} {Q : ρ → Prop}
    (hF : ∀ τ, CS τ T L (nxS (bnd s (rFld T L w lo hi))) → (∀ q, bnd s (rFld T L w lo hi) = .inr q → τ K J = vaS (bnd s (rFld T L w lo hi))) → (∀ k j, ¬ (k = 2 ∧ (j = 7 ∨ j = 8)) → ¬ (k = 3 ∧ (j = 2 ∨ j = 3 ∨ j = 4)) → ¬ (k = K ∧ j = J) → τ k j = σ k j) → OK (F τ) Q) :
    OK (xbS (m_X7_readField n w lo hi σ) fun v s' => xlet (xput s' K J v) fun s'' => F s'') Q := by
  refine OK_xbS (c_readField h hlo hn) (fun v τ hh => ?_)
  obtain ⟨⟨r1, r2⟩, r3⟩ := hh
  dsimp only at r1 r2 r3
  rw [xlet_eq]
  refine hF _ (CS_same r1 (fun k j c => xput_ne (by omega))) (fun q hq => ?_) (fun k j c1 c2 c3 => by rw [xput_ne c3]; exact r3 k j c1 c2)
  rw [xput_eq, r2 q hq, hq]
  rfl
theorem c_readOven (h : PSC σ b T L S) (hV : PSV T L S) (hb : 6 ≤ b) (hn : 4000000 ≤ n) : OK (m_X7_readOven n b σ) (fun τ => PRC τ b T L (sOven T L S) ∧ pfB b σ τ) := by
  obtain ⟨hG, hB, hN1, hN2, hg⟩ := h
  obtain ⟨hV1, hV0, hNV1, hNV2, hgv, hz3, -⟩ := hV
  have v4 := hV1.2.2.2.2.1
  have v5 := hV1.2.2.2.2.2.1
  have v7 := hV1.2.2.2.2.2.2.2.1
  have v8 := hV1.2.2.2.2.2.2.2.2.1
  have v9 := hV1.2.2.2.2.2.2.2.2.2.1
  obtain ⟨b0, b1, b2, b3, b4, b5, b6, b7, b8, b9, bd, bo, bs, bv, br⟩ := hB
  obtain ⟨c, hc⟩ : ∃ c : Nat, S.2.1 5 = (c : Int) := ⟨(S.2.1 5).toNat, by omega⟩
  have ec : (S.2.1 5).toNat = c := by omega
  unfold m_X7_readOven
  rw [xlet_eq, b5, hc]
  refine OK_bind (c_beginOneOf (most := 4) (cnt := c) hG (by omega) hn) (fun s1 h1 => ?_)
  obtain ⟨h1a, h1b⟩ := h1
  have eR : oRs T L S = flds T L oFl (nxS (rBeg T L 4 c S.1)) := by unfold oRs; rw [ec]
  unfold sOven
  rw [eR, ec]
  by_cases hlt : c < 4
  · have e0 := beg_0 (T := T) (L := L) (p := S.1) hlt
    rw [e0] at h1a ⊢
    have gg : CG s1 T L (ntF T L S.1) := h1a
    rw [c_failG gg, if_pos rfl, zI_of (n := (c : Int)) (by omega) (by omega), xck_of (by omega) (by omega)]
    simp only [tn_cast]
    refine c_fieldPut (w := 16) (lo := 1) (hi := 6) (s := .inr (ntF T L S.1)) h1a (by omega) (by omega) hn (fun t1 a1 d1 f1 => ?_)
    refine c_fieldPut (w := 11) (lo := 20) (hi := 300) a1 (by omega) (by omega) hn (fun t2 a2 d2 f2 => ?_)
    refine c_fieldPut (w := 17) (lo := 1) (hi := 50) a2 (by omega) (by omega) hn (fun t3 a3 d3 f3 => ?_)
    rw [xlet_eq, xlet_eq]
    have hp3 : ∀ k j, ¬ (k = 2 ∧ (j = 7 ∨ j = 8)) → ¬ (k = 3 ∧ (j = 2 ∨ j = 3 ∨ j = 4)) → ¬ (k = b + 9 + c ∧ j < 3) → t3 k j = σ k j := fun k j c1 c2 c3 => by
      rw [f3 _ _ c1 c2 (by omega), f2 _ _ c1 c2 (by omega), f1 _ _ c1 c2 (by omega), h1b _ _ c1 c2]
    have e7 : t3 b 7 = (c : Int) := by rw [hp3 _ _ (by omega) (by omega) (by omega), b5, hc]
    have hfr : ∀ k j, ¬ (k = 2 ∧ (j = 7 ∨ j = 8)) → ¬ (k = 3 ∧ (j = 2 ∨ j = 3 ∨ j = 4)) → ¬ (k = b + 9 + c) → ¬ (k = b ∧ j = 7) → (xput (xput t3 (b + 9 + c) 3 0) b 7 ((xput t3 (b + 9 + c) 3 0) b 7 + 1)) k j = σ k j := fun k j c1 c2 c3 c4 => by
      rw [xput_ne c4, xput_ne (by omega)]
      exact hp3 k j c1 c2 (by omega)
    have e7' : (xput (xput t3 (b + 9 + c) 3 0) b 7 ((xput t3 (b + 9 + c) 3 0) b 7 + 1)) b 7 = (c : Int) + 1 := by rw [xput_eq, xput_ne (by omega), e7]
    have er : ∀ j, j < 3 → (xput (xput t3 (b + 9 + c) 3 0) b 7 ((xput t3 (b + 9 + c) 3 0) b 7 + 1)) (b + 9 + c) j = t3 (b + 9 + c) j := fun j hj => by rw [xput_ne (by omega), xput_ne (by omega)]
    have er3 : (xput (xput t3 (b + 9 + c) 3 0) b 7 ((xput t3 (b + 9 + c) 3 0) b 7 + 1)) (b + 9 + c) 3 = 0 := by rw [xput_ne (by omega), xput_eq]
    have hCS0 : CS (xput (xput t3 (b + 9 + c) 3 0) b 7 ((xput t3 (b + 9 + c) 3 0) b 7 + 1)) T L (nxS (bnd (nxS (bnd (nxS (bnd (.inr (ntF T L S.1)) (rFld T L 16 1 6))) (rFld T L 11 20 300))) (rFld T L 17 1 50))) := CS_same a3 (fun k j hkj => by rw [xput_ne (by omega), xput_ne (by omega)])
    generalize xput (xput t3 (b + 9 + c) 3 0) b 7 ((xput t3 (b + 9 + c) 3 0) b 7 + 1) = τ at hfr e7' er er3 hCS0
    refine OK_some ⟨?_, fun k j c1 c2 => hfr k j (by omega) (by omega) (by omega) (by omega)⟩
    show PRC τ b T L (fin1 (bnd (nxS (bnd (nxS (bnd (.inr (ntF T L S.1)) (rFld T L 16 1 6))) (rFld T L 11 20 300))) (rFld T L 17 1 50)) _)
    have hval : ∀ r : List RS1, r = flds T L oFl (.inr (ntF T L S.1)) → (∃ q, bnd (nxS (bnd (nxS (bnd (.inr (ntF T L S.1)) (rFld T L 16 1 6))) (rFld T L 11 20 300))) (rFld T L 17 1 50) = .inr q) → ∀ j, j < 3 → τ (b + 9 + c) j = vaS (r.getD j (.inl (0, 0))) := fun r hr hq j hj => by
      obtain ⟨q3, hq3⟩ := hq
      obtain ⟨p3, hp31, -⟩ := bnd_inr hq3
      obtain ⟨w3, hq2⟩ := nx_inr hp31
      obtain ⟨p2, hp21, -⟩ := bnd_inr hq2
      obtain ⟨w2, hq1⟩ := nx_inr hp21
      rw [er j hj, hr]
      have j3 : j = 0 ∨ j = 1 ∨ j = 2 := by omega
      rcases j3 with rfl | rfl | rfl
      · rw [f3 _ _ (by omega) (by omega) (by omega), f2 _ _ (by omega) (by omega) (by omega), d1 _ hq1]
        rfl
      · rw [f3 _ _ (by omega) (by omega) (by omega), d2 _ hq2]
        rfl
      · rw [d3 _ hq3]
        rfl
    cases hr : bnd (nxS (bnd (nxS (bnd (.inr (ntF T L S.1)) (rFld T L 16 1 6))) (rFld T L 11 20 300))) (rFld T L 17 1 50) with
    | inl g =>
      rw [hr] at hCS0
      exact hCS0
    | inr q =>
      rw [hr] at hCS0
      have hCS : CG τ T L q.2 := hCS0
      have hvals := hval _ rfl ⟨q, hr⟩
      show PSC5 τ b T L q.2 (stI (rowI S.2.1 (70 + 4 * c) 3 (flds T L oFl (.inr (ntF T L S.1)))) 5 (S.2.1 5 + 1)) S.2.2.1 S.2.2.2.1 S.2.2.2.2
      have hd : ∀ i, i ≠ 5 → ¬ (70 + 4 * c ≤ i ∧ i < 70 + 4 * c + 3) → stI (rowI S.2.1 (70 + 4 * c) 3 (flds T L oFl (.inr (ntF T L S.1)))) 5 (S.2.1 5 + 1) i = S.2.1 i := fun i a1 a2 => by
        rw [stI_ne a1]
        unfold rowI
        rw [if_neg a2]
      have hd5 : stI (rowI S.2.1 (70 + 4 * c) 3 (flds T L oFl (.inr (ntF T L S.1)))) 5 (S.2.1 5 + 1) 5 = S.2.1 5 + 1 := stI_eq
      have hdr : ∀ j, j < 3 → stI (rowI S.2.1 (70 + 4 * c) 3 (flds T L oFl (.inr (ntF T L S.1)))) 5 (S.2.1 5 + 1) (70 + 4 * c + j) = vaS ((flds T L oFl (.inr (ntF T L S.1))).getD j (.inl (0, 0))) := fun j hj => by
        rw [stI_ne (by omega)]
        unfold rowI
        rw [if_pos (by omega), show 70 + 4 * c + j - (70 + 4 * c) = j by omega]
      generalize stI (rowI S.2.1 (70 + 4 * c) 3 (flds T L oFl (.inr (ntF T L S.1)))) 5 (S.2.1 5 + 1) = D at hd hd5 hdr ⊢
      refine ⟨hCS, ⟨?_, ?_, ?_, ?_, ?_, ?_, ?_, ?_, ?_, ?_, ?_, ?_, ?_, ?_, ?_⟩, ?_, ?_, fun i hi => ?_⟩
      · rw [hfr _ _ (by omega) (by omega) (by omega) (by omega), hd _ (by omega) (by omega)]; exact b0
      · rw [hfr _ _ (by omega) (by omega) (by omega) (by omega), hd _ (by omega) (by omega)]; exact b1
      · rw [hfr _ _ (by omega) (by omega) (by omega) (by omega), hd _ (by omega) (by omega)]; exact b2
      · rw [hfr _ _ (by omega) (by omega) (by omega) (by omega), hd _ (by omega) (by omega)]; exact b3
      · rw [hfr _ _ (by omega) (by omega) (by omega) (by omega), hd _ (by omega) (by omega)]; exact b4
      · rw [e7', hd5, hc]
      · rw [hfr _ _ (by omega) (by omega) (by omega) (by omega), hd _ (by omega) (by omega)]; exact b6
      · rw [hfr _ _ (by omega) (by omega) (by omega) (by omega), hd _ (by omega) (by omega)]; exact b7
      · rw [hfr _ _ (by omega) (by omega) (by omega) (by omega), hd _ (by omega) (by omega)]; exact b8
      · rw [hfr _ _ (by omega) (by omega) (by omega) (by omega), hd _ (by omega) (by omega)]; exact b9
      · exact keepD bd v4.2 (hd _ (by omega) (by omega)) (fun i j c1 c2 => hfr _ _ (by omega) (by omega) (by omega) (by omega)) (fun i c1 c2 => hd i (by omega) (by omega))
      · intro o ho w hw
        rw [hd5, hc] at ho
        by_cases e : o = c
        · subst e
          by_cases w3 : w = 3
          · subst w3
            rw [er3]
            show 0 = D (70 + 4 * o + 3)
            rw [hd _ (by omega) (by omega)]
            exact (hz3 o (by omega)).symm
          · rw [hvals w (by omega)]
            exact (hdr w (by omega)).symm
        · rw [hfr _ _ (by omega) (by omega) (by omega) (by omega), bo o (by omega) w hw]
          exact (hd _ (by omega) (by omega)).symm
      · exact keepS bs v7.2 (hd _ (by omega) (by omega)) (fun i j c1 c2 => hfr _ _ (by omega) (by omega) (by omega) (by omega)) (fun i c1 c2 => hd i (by omega) (by omega))
      · exact keepV bv v8.2 (hd _ (by omega) (by omega)) (fun j => hfr _ _ (by omega) (by omega) (by omega) (by omega)) (fun i c1 c2 => hd i (by omega) (by omega))
      · exact keepR br v9.2 (hd _ (by omega) (by omega)) (fun i j c1 c2 => hfr _ _ (by omega) (by omega) (by omega) (by omega)) (fun i c1 c2 => hd i (by omega) (by omega))
      · rw [hd 4 (by omega) (by omega)]
        exact CN_same hN1 (fun j _ => hfr _ _ (by omega) (by omega) (by omega) (by omega))
      · rw [hd 6 (by omega) (by omega)]
        exact CN_same hN2 (fun j _ => hfr _ _ (by omega) (by omega) (by omega) (by omega))
      · rw [hfr _ _ (by omega) (by omega) (by omega) (by omega)]
        exact hg i hi
  · have e0 : nxS (rBeg T L 4 c S.1) = .inl (5, S.1) := by
      unfold rBeg
      rw [if_neg hlt]
      rfl
    rw [e0] at h1a ⊢
    have gx : CX s1 T L (5, S.1) := h1a
    rw [c_failX gx, if_neg (by omega)]
    exact OK_some ⟨gx, fun k j c1 c2 => h1b k j (by omega) (by omega)⟩
end TX6
