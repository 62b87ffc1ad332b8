/-! what a statement keeps of the draft; it goes on in the text -/
section TX10
variable {T : Nat → Int} {L p : Nat} {σ τ υ : xS} {n b : Nat} {s : RS0} {f : Int × Nat} {S S' : PSt} {δ δ' : Nat → Int}
theorem num_r {lo hi : Int} {q : Int × Nat} (h : rNum T L lo hi p = .inr q) : (lo ≤ q.1 ∧ q.1 ≤ hi) ∧ q.2 = ntF T L p := by
  unfold rNum at h
  split at h
  · split at h
    · cases h
      exact ⟨by assumption, rfl⟩
    · cases h
  · cases h
theorem fld_r {w lo hi : Int} {q : Int × Nat} (h : rFld T L w lo hi p = .inr q) : (lo ≤ q.1 ∧ q.1 ≤ hi) ∧ q.2 = ntF T L (ntF T L p) := by
  unfold rFld at h
  split at h
  · exact num_r h
  · cases h
theorem new_r {nm : Nat → Nat × Nat} {cnt : Nat} {q : Int × Nat} (h : rNew T L nm cnt p = .inr q) : nmB T L p = true ∧ q.2 = ntF T L p := by
  unfold rNew at h
  split at h
  · split at h
    · cases h
    · cases h
      exact ⟨by assumption, rfl⟩
  · cases h
theorem knw_r {nm : Nat → Nat × Nat} {cnt : Nat} {q : Int × Nat} (h : rKnw T L nm cnt p = .inr q) : (0 ≤ q.1 ∧ q.1 < cnt) ∧ q.2 = ntF T L p := by
  unfold rKnw at h
  split at h
  · split at h
    · cases h
      exact ⟨by omega, rfl⟩
    · cases h
  · cases h
theorem pl_r {nm : Nat → Nat × Nat} {cnt : Nat} {o : Int} {q : Int × Nat} (h : rPl T L nm cnt o p = .inr q) : (q.1 = 7 ∨ (0 ≤ q.1 ∧ q.1 < cnt)) ∧ q.1 ≠ o ∧ q.2 = ntF T L p := by
  unfold rPl at h
  split at h
  · split at h
    · cases h
    · cases h
      exact ⟨Or.inl rfl, by assumption, rfl⟩
  · split at h
    · split at h
      · split at h
        · cases h
        · cases h
          exact ⟨Or.inr (by omega), by assumption, rfl⟩
      · cases h
    · cases h
theorem set_r {gv lo hi : Int} {q : Int × Nat} (h : rSet T L gv lo hi p = .inr q) : (lo ≤ q.1 ∧ q.1 ≤ hi) ∧ q.2 = ntF T L (ntF T L p) := by
  unfold rSet at h
  split at h
  · exact num_r h
  · cases h
theorem beg_2 {most cnt : Nat} {q : Nat} (h : nxS (rBeg T L most cnt p) = .inr q) : cnt < most ∧ q = ntF T L p := by
  unfold rBeg at h
  split at h
  · cases h
    exact ⟨by assumption, rfl⟩
  · cases h
theorem nt_b (h : p ≤ L) : p ≤ ntF T L p ∧ ntF T L p ≤ L := ⟨(ntF_spec h).1, (ntF_spec h).2.1⟩
theorem flds_at : ∀ (l : List (Nat × Int × Int)) (s : RS0) (i : Nat), i < l.length → ∀ q, (flds T L l s).getD i (.inl (0, 0)) = .inr q → (∃ p, s = .inr p ∧ (p ≤ L → p ≤ q.2 ∧ q.2 ≤ L)) ∧ ∀ j, j ≤ i → (l.getD j (0, 0, 0)).2.1 ≤ vaS ((flds T L l s).getD j (.inl (0, 0))) ∧ vaS ((flds T L l s).getD j (.inl (0, 0))) ≤ (l.getD j (0, 0, 0)).2.2 := by
  intro l
  induction l with
  | nil => intro s i hi; exact absurd hi (by show ¬ i < 0; omega)
  | cons a l ih =>
    obtain ⟨w, lo, hi⟩ := a
    intro s i hi' q hq
    cases i with
    | zero =>
      have hq' : bnd s (rFld T L w lo hi) = .inr q := hq
      obtain ⟨q0, h1, h2⟩ := bnd_inr hq'
      have h3 := fld_r h2
      refine ⟨⟨q0, h1, fun hL => ?_⟩, fun j hj => ?_⟩
      · have n1 := nt_b (T := T) hL
        have n2 := nt_b (T := T) n1.2
        rw [h3.2]
        omega
      · have : j = 0 := by omega
        subst this
        show lo ≤ vaS (bnd s (rFld T L w lo hi)) ∧ vaS (bnd s (rFld T L w lo hi)) ≤ hi
        rw [hq']
        exact h3.1
    | succ i =>
      have hq' : (flds T L l (nxS (bnd s (rFld T L w lo hi)))).getD i (.inl (0, 0)) = .inr q := hq
      obtain ⟨⟨p', h1, h2⟩, h3⟩ := ih _ i (by have : i + 1 < l.length + 1 := hi'; omega) q hq'
      obtain ⟨v, hv⟩ := nx_inr h1
      obtain ⟨q0, h4, h5⟩ := bnd_inr hv
      have h6 := fld_r h5
      refine ⟨⟨q0, h4, fun hL => ?_⟩, fun j hj => ?_⟩
      · have n1 := nt_b (T := T) hL
        have n2 := nt_b (T := T) n1.2
        have e : p' = ntF T L (ntF T L q0) := h6.2
        have := h2 (by omega)
        omega
      · cases j with
        | zero =>
          show lo ≤ vaS (bnd s (rFld T L w lo hi)) ∧ vaS (bnd s (rFld T L w lo hi)) ≤ hi
          rw [hv]
          exact h6.1
        | succ j => exact h3 j (by omega)
def rwD (f : Nat → Int) : Prop := (1 ≤ f 0 ∧ f 0 ≤ 120) ∧ (0 ≤ f 1 ∧ f 1 ≤ 300) ∧ (1 ≤ f 2 ∧ f 2 ≤ 120) ∧ (0 ≤ f 3 ∧ f 3 ≤ 300) ∧ (0 ≤ f 4 ∧ f 4 ≤ 240) ∧ (1 ≤ f 5 ∧ f 5 ≤ 120) ∧ (100 ≤ f 6 ∧ f 6 ≤ 300) ∧ (5 ≤ f 7 ∧ f 7 ≤ 200) ∧ (1 ≤ f 8 ∧ f 8 ≤ 1440) ∧ (0 ≤ f 9 ∧ f 9 ≤ 999)
def VZ (δ : Nat → Int) : Prop := V δ ∧ V0 δ ∧ (∀ o, o < 4 → ovF δ o 3 = 0) ∧ (∀ s, s < 20 → stF δ s 3 = 0) ∧ (∀ o, o < 24 → oF δ o 4 = 0)
theorem VZ_ch (h : VZ δ) (a0 : 10 ≤ δ' 0 ∧ δ' 0 ≤ 40) (a1 : 0 ≤ δ' 1 ∧ δ' 1 ≤ 120) (a2 : 1 ≤ δ' 2 ∧ δ' 2 ≤ 4) (a3 : 1 ≤ δ' 3 ∧ δ' 3 ≤ 4) (a4 : δ 4 ≤ δ' 4 ∧ δ' 4 ≤ 6) (a5 : 0 ≤ δ' 5 ∧ δ' 5 ≤ 4) (a6 : δ 6 ≤ δ' 6 ∧ δ' 6 ≤ 7) (a7 : 0 ≤ δ' 7 ∧ δ' 7 ≤ 20) (a8 : 0 ≤ δ' 8 ∧ δ' 8 ≤ 3) (a9 : 0 ≤ δ' 9 ∧ δ' 9 ≤ 24)
    (hd : ∀ d : Nat, (d : Int) < δ' 4 → ((d : Int) < δ 4 ∧ ∀ w, w < 10 → dF δ' d w = dF δ d w) ∨ rwD (fun w => dF δ' d w))
    (ho : ∀ o : Nat, (o : Int) < δ' 5 → ((o : Int) < δ 5 ∧ ∀ w, w < 3 → ovF δ' o w = ovF δ o w) ∨ (1 ≤ ovF δ' o 0 ∧ ovF δ' o 0 ≤ 6) ∧ (20 ≤ ovF δ' o 1 ∧ ovF δ' o 1 ≤ 300) ∧ (1 ≤ ovF δ' o 2 ∧ ovF δ' o 2 ≤ 50))
    (hs : ∀ s : Nat, (s : Int) < δ' 7 → ((s : Int) < δ 7 ∧ ∀ w, w < 3 → stF δ' s w = stF δ s w) ∨ (0 ≤ stF δ' s 0 ∧ stF δ' s 0 ≤ δ' 6) ∧ (0 ≤ stF δ' s 1 ∧ stF δ' s 1 ≤ δ' 6) ∧ stF δ' s 0 ≠ stF δ' s 1 ∧ (1 ≤ stF δ' s 2 ∧ stF δ' s 2 ≤ 120))
    (hv : ∀ v : Nat, (v : Int) < δ' 8 → ((v : Int) < δ 8 ∧ vnF δ' v = vnF δ v) ∨ 1 ≤ vnF δ' v ∧ vnF δ' v ≤ 2000)
    (hr : ∀ o : Nat, (o : Int) < δ' 9 → ((o : Int) < δ 9 ∧ ∀ w, w < 4 → oF δ' o w = oF δ o w) ∨ (0 ≤ oF δ' o 0 ∧ oF δ' o 0 < δ' 6) ∧ (0 ≤ oF δ' o 1 ∧ oF δ' o 1 < δ' 4) ∧ (1 ≤ oF δ' o 2 ∧ oF δ' o 2 ≤ 200) ∧ (0 ≤ oF δ' o 3 ∧ oF δ' o 3 ≤ 1439))
    (z3 : ∀ o, o < 4 → ovF δ' o 3 = ovF δ o 3) (z7 : ∀ s, s < 20 → stF δ' s 3 = stF δ s 3) (z9 : ∀ o, o < 24 → oF δ' o 4 = oF δ o 4) : VZ δ' := by
  obtain ⟨⟨v0, v1, v2, v3, v4, v5, v6, v7, v8, v9, vd, vo, vs, vv, vr⟩, ⟨w0, w2, w3, wo⟩, y3, y7, y9⟩ := h
  have z3' : ∀ o, o < 4 → ovF δ' o 3 = 0 := fun o h => by rw [z3 o h]; exact y3 o h
  have z7' : ∀ s, s < 20 → stF δ' s 3 = 0 := fun s h => by rw [z7 s h]; exact y7 s h
  have z9' : ∀ o, o < 24 → oF δ' o 4 = 0 := fun o h => by rw [z9 o h]; exact y9 o h
  refine ⟨⟨by omega, by omega, by omega, by omega, by omega, by omega, by omega, by omega, by omega, by omega, fun d h => ?_, fun o h => ?_, fun s h => ?_, fun v h => ?_, fun o h => ?_⟩, ⟨by omega, by omega, by omega, fun o h => ?_⟩, z3', z7', z9'⟩
  · rcases hd d h with ⟨h1, k⟩ | k
    · rw [k 0 (by omega), k 1 (by omega), k 2 (by omega), k 3 (by omega), k 4 (by omega), k 5 (by omega), k 6 (by omega), k 7 (by omega), k 8 (by omega), k 9 (by omega)]
      exact vd d h1
    · exact k
  · have z := z3' o (by omega)
    rcases ho o h with ⟨h1, k⟩ | ⟨k1, k2, k3⟩
    · obtain ⟨i1, i2, i3, -⟩ := vo o h1
      rw [k 0 (by omega), k 1 (by omega), k 2 (by omega)]
      exact ⟨i1, i2, i3, Or.inl z⟩
    · exact ⟨by omega, k2, k3, Or.inl z⟩
  · have z := z7' s (by omega)
    rcases hs s h with ⟨h1, k⟩ | ⟨k1, k2, k3, k4⟩
    · obtain ⟨i1, i2, i3, i4, -⟩ := vs s h1
      rw [k 0 (by omega), k 1 (by omega), k 2 (by omega)]
      exact ⟨by omega, by omega, i3, i4, Or.inl z⟩
    · exact ⟨k1, k2, k3, k4, Or.inl z⟩
  · rcases hv v h with ⟨h1, k⟩ | k
    · rw [k]
      exact vv v h1
    · exact k
  · have z := z9' o (by omega)
    rcases hr o h with ⟨h1, k⟩ | ⟨k1, k2, k3, k4⟩
    · obtain ⟨i1, i2, i3, i4, -⟩ := vr o h1
      rw [k 0 (by omega), k 1 (by omega), k 2 (by omega), k 3 (by omega)]
      exact ⟨by omega, by omega, i3, i4, Or.inl z⟩
    · exact ⟨k1, k2, k3, k4, Or.inl z⟩
  · rcases ho o h with ⟨h1, k⟩ | ⟨k1, -, -⟩
    · rw [k 0 (by omega)]
      exact wo o h1
    · exact k1.2
theorem NV_st {nm : Nat → Nat × Nat} {c : Nat} (h : NV T nm c) (hnm : nmB T L p = true) : NV T (stN nm c (p, enF T L p - p)) (c + 1) := fun i hi => by
  obtain ⟨h1, -, -, h4⟩ := nm_letters hnm
  by_cases e : i = c
  · subst e
    have : stN nm i (p, enF T L p - p) i = (p, enF T L p - p) := if_pos rfl
    rw [this]
    exact ⟨h1, h4⟩
  · have : stN nm c (p, enF T L p - p) i = nm i := if_neg e
    rw [this]
    exact h i (by omega)
theorem PSV_vz (h : PSV T L S) : VZ S.2.1 := ⟨h.1, h.2.1, h.2.2.2.2.2.1, h.2.2.2.2.2.2.1, h.2.2.2.2.2.2.2⟩
theorem PSV_mk {dn sn : Nat → Nat × Nat} {g : Nat → Int} (h : VZ δ) (h1 : NV T dn (δ 4).toNat) (h2 : NV T sn (δ 6).toNat) (h3 : ∀ k, k < 4 → g k = 0 ∨ g k = 1) : PSV T L (p, δ, dn, sn, g) := ⟨h.1, h.2.1, h1, h2, h3, h.2.2.1, h.2.2.2.1, h.2.2.2.2⟩
/-- what follows a keyword at its place -/
def Nx (T : Nat → Int) (L : Nat) (S : PSt) (r : RSt) : Prop := ∀ S', r = .inr S' → PSV T L S' ∧ (S.1 ≤ L → ntF T L S.1 ≤ S'.1 ∧ S'.1 ≤ L)
theorem fin_inr {r : RS1} {F : Int → Nat → PSt} (h : fin1 r F = .inr S') : ∃ v q, r = .inr (v, q) ∧ S' = F v q := by
  cases r with
  | inl f => cases h
  | inr q => cases h; exact ⟨q.1, q.2, rfl, rfl⟩
theorem n_set {k : Nat} {lo hi : Int} (hk : k < 4) (hb : (k = 0 ∧ lo = 10 ∧ hi = 40) ∨ (k = 1 ∧ lo = 0 ∧ hi = 120) ∨ ((k = 2 ∨ k = 3) ∧ lo = 1 ∧ hi = 4)) (hV : PSV T L S) : Nx T L S (sSet T L S k lo hi) := by
  intro S' h
  unfold sSet at h
  obtain ⟨v, q, h1, rfl⟩ := fin_inr h
  have h2 := set_r h1
  have hvz := PSV_vz hV
  obtain ⟨hV1, hV0, hNV1, hNV2, hgv, -, -, -⟩ := hV
  have v0 := hV1.1
  have v1 := hV1.2.1
  have v2 := hV1.2.2.1
  have v3 := hV1.2.2.2.1
  have w0 := hV0.1
  have w2 := hV0.2.1
  have w3 := hV0.2.2.1
  have v4 := hV1.2.2.2.2.1
  have v5 := hV1.2.2.2.2.2.1
  have v6 := hV1.2.2.2.2.2.2.1
  have v7 := hV1.2.2.2.2.2.2.2.1
  have v8 := hV1.2.2.2.2.2.2.2.2.1
  have v9 := hV1.2.2.2.2.2.2.2.2.2.1
  have hd : ∀ i, i ≠ k → stI S.2.1 k v i = S.2.1 i := fun i hi => stI_ne hi
  have hkv : stI S.2.1 k v k = v := stI_eq
  have hv : lo ≤ v ∧ v ≤ hi := h2.1
  generalize hD : stI S.2.1 k v = D at hd hkv
  have d0 : 10 ≤ D 0 ∧ D 0 ≤ 40 := by
    by_cases e : k = 0
    · subst e; omega
    · rw [hd 0 (by omega)]; omega
  have d1 : 0 ≤ D 1 ∧ D 1 ≤ 120 := by
    by_cases e : k = 1
    · subst e; omega
    · rw [hd 1 (by omega)]; omega
  have d2 : 1 ≤ D 2 ∧ D 2 ≤ 4 := by
    by_cases e : k = 2
    · subst e; omega
    · rw [hd 2 (by omega)]; omega
  have d3 : 1 ≤ D 3 ∧ D 3 ≤ 4 := by
    by_cases e : k = 3
    · subst e; omega
    · rw [hd 3 (by omega)]; omega
  have e4 := hd 4 (by omega)
  have e5 := hd 5 (by omega)
  have e6 := hd 6 (by omega)
  have e7 := hd 7 (by omega)
  have e8 := hd 8 (by omega)
  have e9 := hd 9 (by omega)
  refine ⟨PSV_mk (VZ_ch hvz d0 d1 d2 d3 (by omega) (by omega) (by omega) (by omega) (by omega) (by omega) (fun d h => Or.inl ⟨by omega, fun w hw => hd _ (by omega)⟩) (fun d h => Or.inl ⟨by omega, fun w hw => hd _ (by omega)⟩) (fun d h => Or.inl ⟨by omega, fun w hw => hd _ (by omega)⟩) (fun d h => Or.inl ⟨by omega, hd _ (by omega)⟩) (fun d h => Or.inl ⟨by omega, fun w hw => hd _ (by omega)⟩) (fun o h => hd _ (by omega)) (fun o h => hd _ (by omega)) (fun o h => hd _ (by omega))) (by rw [e4]; exact hNV1) (by rw [e6]; exact hNV2) (fun j hj => ?_), fun hL => ?_⟩
  · by_cases e : j = k
    · subst e
      exact Or.inr stI_eq
    · rw [stI_ne e]
      exact hgv j hj
  · have n1 := nt_b (T := T) hL
    have n2 := nt_b (T := T) n1.2
    have e : q = ntF T L (ntF T L S.1) := h2.2
    show _ ≤ q ∧ q ≤ L
    omega
theorem n_van (hV : PSV T L S) : Nx T L S (sVan T L S) := by
  intro S' h
  unfold sVan at h
  obtain ⟨v, q, h1, rfl⟩ := fin_inr h
  obtain ⟨p1, h3, h4⟩ := bnd_inr h1
  have h5 := beg_2 h3
  have h2 := num_r h4
  have hvz := PSV_vz hV
  obtain ⟨hV1, hV0, hNV1, hNV2, hgv, -, -, -⟩ := hV
  have v0 := hV1.1
  have v1 := hV1.2.1
  have v2 := hV1.2.2.1
  have v3 := hV1.2.2.2.1
  have w0 := hV0.1
  have w2 := hV0.2.1
  have w3 := hV0.2.2.1
  have v4 := hV1.2.2.2.2.1
  have v5 := hV1.2.2.2.2.2.1
  have v6 := hV1.2.2.2.2.2.2.1
  have v7 := hV1.2.2.2.2.2.2.2.1
  have v8 := hV1.2.2.2.2.2.2.2.2.1
  have v9 := hV1.2.2.2.2.2.2.2.2.2.1
  obtain ⟨c, hc⟩ : ∃ c : Nat, S.2.1 8 = (c : Int) := ⟨(S.2.1 8).toNat, by omega⟩
  have ec : (S.2.1 8).toNat = c := by omega
  rw [ec] at h5 ⊢
  have hv : 1 ≤ v ∧ v ≤ 2000 := h2.1
  have hd : ∀ i, i ≠ 8 → i ≠ 166 + c → stI (stI S.2.1 (166 + c) v) 8 (S.2.1 8 + 1) i = S.2.1 i := fun i h1 h2 => by rw [stI_ne h1, stI_ne h2]
  have e8 : stI (stI S.2.1 (166 + c) v) 8 (S.2.1 8 + 1) 8 = S.2.1 8 + 1 := stI_eq
  have ev : stI (stI S.2.1 (166 + c) v) 8 (S.2.1 8 + 1) (166 + c) = v := by rw [stI_ne (by omega), stI_eq]
  generalize hD : stI (stI S.2.1 (166 + c) v) 8 (S.2.1 8 + 1) = D at hd e8 ev
  have e0 := hd 0 (by omega) (by omega)
  have e1 := hd 1 (by omega) (by omega)
  have e2 := hd 2 (by omega) (by omega)
  have e3 := hd 3 (by omega) (by omega)
  have e4 := hd 4 (by omega) (by omega)
  have e5 := hd 5 (by omega) (by omega)
  have e6 := hd 6 (by omega) (by omega)
  have e7 := hd 7 (by omega) (by omega)
  have e9 := hd 9 (by omega) (by omega)
  refine ⟨PSV_mk (VZ_ch hvz (by omega) (by omega) (by omega) (by omega) (by omega) (by omega) (by omega) (by omega) (by omega) (by omega) (fun d h => Or.inl ⟨by omega, fun w hw => hd _ (by omega) (by omega)⟩) (fun d h => Or.inl ⟨by omega, fun w hw => hd _ (by omega) (by omega)⟩) (fun d h => Or.inl ⟨by omega, fun w hw => hd _ (by omega) (by omega)⟩) (fun d h => ?_) (fun d h => Or.inl ⟨by omega, fun w hw => hd _ (by omega) (by omega)⟩) (fun o h => hd _ (by omega) (by omega)) (fun o h => hd _ (by omega) (by omega)) (fun o h => hd _ (by omega) (by omega))) (by rw [e4]; exact hNV1) (by rw [e6]; exact hNV2) hgv, fun hL => ?_⟩
  · by_cases e : d = c
    · subst e
      right
      rw [show vnF D d = v from ev]
      exact hv
    · exact Or.inl ⟨by omega, hd _ (by omega) (by omega)⟩
  · have n1 := nt_b (T := T) hL
    have n2 := nt_b (T := T) n1.2
    have e : q = ntF T L p1 := h2.2
    rw [h5.2] at e
    show _ ≤ q ∧ q ≤ L
    omega
theorem n_shop (hV : PSV T L S) : Nx T L S (sShop T L S) := by
  intro S' h
  unfold sShop at h
  obtain ⟨v, q, h1, rfl⟩ := fin_inr h
  obtain ⟨p1, h3, h4⟩ := bnd_inr h1
  have h5 := beg_2 h3
  have h2 := new_r h4
  have hvz := PSV_vz hV
  obtain ⟨hV1, hV0, hNV1, hNV2, hgv, -, -, -⟩ := hV
  have v0 := hV1.1
  have v1 := hV1.2.1
  have v2 := hV1.2.2.1
  have v3 := hV1.2.2.2.1
  have w0 := hV0.1
  have w2 := hV0.2.1
  have w3 := hV0.2.2.1
  have v4 := hV1.2.2.2.2.1
  have v5 := hV1.2.2.2.2.2.1
  have v6 := hV1.2.2.2.2.2.2.1
  have v7 := hV1.2.2.2.2.2.2.2.1
  have v8 := hV1.2.2.2.2.2.2.2.2.1
  have v9 := hV1.2.2.2.2.2.2.2.2.2.1
  rw [h3]
  obtain ⟨c, hc⟩ : ∃ c : Nat, S.2.1 6 = (c : Int) := ⟨(S.2.1 6).toNat, by omega⟩
  have ec : (S.2.1 6).toNat = c := by omega
  rw [ec] at h5 hNV2 ⊢
  have hd : ∀ i, i ≠ 6 → stI S.2.1 6 (S.2.1 6 + 1) i = S.2.1 i := fun i h1 => by rw [stI_ne h1]
  have e6 : stI S.2.1 6 (S.2.1 6 + 1) 6 = S.2.1 6 + 1 := stI_eq
  generalize hD : stI S.2.1 6 (S.2.1 6 + 1) = D at hd e6
  have e0 := hd 0 (by omega)
  have e1 := hd 1 (by omega)
  have e2 := hd 2 (by omega)
  have e3 := hd 3 (by omega)
  have e4 := hd 4 (by omega)
  have e5 := hd 5 (by omega)
  have e7 := hd 7 (by omega)
  have e8 := hd 8 (by omega)
  have e9 := hd 9 (by omega)
  have e6' : (D 6).toNat = c + 1 := by omega
  refine ⟨PSV_mk (VZ_ch hvz (by omega) (by omega) (by omega) (by omega) (by omega) (by omega) (by omega) (by omega) (by omega) (by omega) (fun d h => Or.inl ⟨by omega, fun w hw => hd _ (by omega)⟩) (fun d h => Or.inl ⟨by omega, fun w hw => hd _ (by omega)⟩) (fun d h => Or.inl ⟨by omega, fun w hw => hd _ (by omega)⟩) (fun d h => Or.inl ⟨by omega, hd _ (by omega)⟩) (fun d h => Or.inl ⟨by omega, fun w hw => hd _ (by omega)⟩) (fun o h => hd _ (by omega)) (fun o h => hd _ (by omega)) (fun o h => hd _ (by omega))) (by rw [e4]; exact hNV1) ?_ hgv, fun hL => ?_⟩
  · rw [e6']
    exact NV_st hNV2 h2.1
  · have n1 := nt_b (T := T) hL
    have n2 := nt_b (T := T) n1.2
    have e : q = ntF T L p1 := h2.2
    rw [h5.2] at e
    show _ ≤ q ∧ q ≤ L
    omega
theorem row_in {len c i : Nat} {l : List RS1} (h1 : c ≤ i) (h2 : i < c + len) : rowI δ c len l i = vaS (l.getD (i - c) (.inl (0, 0))) := if_pos ⟨h1, h2⟩
theorem row_out {len c i : Nat} {l : List RS1} (h : ¬ (c ≤ i ∧ i < c + len)) : rowI δ c len l i = δ i := if_neg h
theorem n_oven (hV : PSV T L S) : Nx T L S (sOven T L S) := by
  intro S' h
  unfold sOven at h
  obtain ⟨v, q, h1, rfl⟩ := fin_inr h
  obtain ⟨⟨p1, h3, h4⟩, h2⟩ := flds_at oFl _ 2 (by decide) _ h1
  have h5 := beg_2 h3
  have hvz := PSV_vz hV
  obtain ⟨hV1, hV0, hNV1, hNV2, hgv, -, -, -⟩ := hV
  have v0 := hV1.1
  have v1 := hV1.2.1
  have v2 := hV1.2.2.1
  have v3 := hV1.2.2.2.1
  have w0 := hV0.1
  have w2 := hV0.2.1
  have w3 := hV0.2.2.1
  have v4 := hV1.2.2.2.2.1
  have v5 := hV1.2.2.2.2.2.1
  have v6 := hV1.2.2.2.2.2.2.1
  have v7 := hV1.2.2.2.2.2.2.2.1
  have v8 := hV1.2.2.2.2.2.2.2.2.1
  have v9 := hV1.2.2.2.2.2.2.2.2.2.1
  obtain ⟨c, hc⟩ : ∃ c : Nat, S.2.1 5 = (c : Int) := ⟨(S.2.1 5).toNat, by omega⟩
  have ec : (S.2.1 5).toNat = c := by omega
  have l0 := h2 0 (by omega)
  have l1 := h2 1 (by omega)
  have l2 := h2 2 (by omega)
  rw [ec] at h5
  have eo : oRs T L S = flds T L oFl (nxS (rBeg T L 4 (S.2.1 5).toNat S.1)) := rfl
  rw [← eo] at l0 l1 l2
  rw [ec]
  generalize oRs T L S = l at l0 l1 l2
  have hd : ∀ i, i ≠ 5 → ¬ (70 + 4 * c ≤ i ∧ i < 70 + 4 * c + 3) → stI (rowI S.2.1 (70 + 4 * c) 3 l) 5 (S.2.1 5 + 1) i = S.2.1 i := fun i h1 h2 => by rw [stI_ne h1, row_out h2]
  have e5 : stI (rowI S.2.1 (70 + 4 * c) 3 l) 5 (S.2.1 5 + 1) 5 = S.2.1 5 + 1 := stI_eq
  have ev : ∀ w, w < 3 → stI (rowI S.2.1 (70 + 4 * c) 3 l) 5 (S.2.1 5 + 1) (70 + 4 * c + w) = vaS (l.getD w (.inl (0, 0))) := fun w hw => by
    rw [stI_ne (by omega), row_in (by omega) (by omega), show 70 + 4 * c + w - (70 + 4 * c) = w from by omega]
  generalize hD : stI (rowI S.2.1 (70 + 4 * c) 3 l) 5 (S.2.1 5 + 1) = D at hd e5 ev
  have e0 := hd 0 (by omega) (by omega)
  have e1 := hd 1 (by omega) (by omega)
  have e2 := hd 2 (by omega) (by omega)
  have e3 := hd 3 (by omega) (by omega)
  have e4 := hd 4 (by omega) (by omega)
  have e6 := hd 6 (by omega) (by omega)
  have e7 := hd 7 (by omega) (by omega)
  have e8 := hd 8 (by omega) (by omega)
  have e9 := hd 9 (by omega) (by omega)
  refine ⟨PSV_mk (VZ_ch hvz (by omega) (by omega) (by omega) (by omega) (by omega) (by omega) (by omega) (by omega) (by omega) (by omega) (fun d h => Or.inl ⟨by omega, fun w hw => hd _ (by omega) (by omega)⟩) (fun d h => ?_) (fun d h => Or.inl ⟨by omega, fun w hw => hd _ (by omega) (by omega)⟩) (fun d h => Or.inl ⟨by omega, hd _ (by omega) (by omega)⟩) (fun d h => Or.inl ⟨by omega, fun w hw => hd _ (by omega) (by omega)⟩) (fun o h => hd _ (by omega) (by omega)) (fun o h => hd _ (by omega) (by omega)) (fun o h => hd _ (by omega) (by omega))) (by rw [e4]; exact hNV1) (by rw [e6]; exact hNV2) hgv, fun hL => ?_⟩
  · by_cases e : d = c
    · subst e
      right
      rw [show ovF D d 0 = _ from ev 0 (by omega), show ovF D d 1 = _ from ev 1 (by omega), show ovF D d 2 = _ from ev 2 (by omega)]
      exact ⟨l0, l1, l2⟩
    · exact Or.inl ⟨by omega, fun w hw => hd _ (by omega) (by omega)⟩
  · have n1 := nt_b (T := T) hL
    have := h4 (by omega)
    show _ ≤ q ∧ q ≤ L
    omega
theorem n_dough (hV : PSV T L S) : Nx T L S (sDough T L S) := by
  intro S' h
  unfold sDough at h
  obtain ⟨v, q, h1, rfl⟩ := fin_inr h
  obtain ⟨⟨p1, h3, h4⟩, h2⟩ := flds_at dFl _ 9 (by decide) _ h1
  unfold dSt at h3
  obtain ⟨u, h6⟩ := nx_inr h3
  obtain ⟨p2, h7, h8⟩ := bnd_inr h6
  have h5 := beg_2 h7
  have h9 := new_r h8
  have hvz := PSV_vz hV
  obtain ⟨hV1, hV0, hNV1, hNV2, hgv, -, -, -⟩ := hV
  have v0 := hV1.1
  have v1 := hV1.2.1
  have v2 := hV1.2.2.1
  have v3 := hV1.2.2.2.1
  have w0 := hV0.1
  have w2 := hV0.2.1
  have w3 := hV0.2.2.1
  have v4 := hV1.2.2.2.2.1
  have v5 := hV1.2.2.2.2.2.1
  have v6 := hV1.2.2.2.2.2.2.1
  have v7 := hV1.2.2.2.2.2.2.2.1
  have v8 := hV1.2.2.2.2.2.2.2.2.1
  have v9 := hV1.2.2.2.2.2.2.2.2.2.1
  obtain ⟨c, hc⟩ : ∃ c : Nat, S.2.1 4 = (c : Int) := ⟨(S.2.1 4).toNat, by omega⟩
  have ec : (S.2.1 4).toNat = c := by omega
  rw [h7]
  rw [ec] at h5 hNV1 ⊢
  have eo : dRs T L S = flds T L dFl (dSt T L S) := rfl
  rw [← eo] at h2
  generalize dRs T L S = l at h2
  have hd : ∀ i, i ≠ 4 → ¬ (10 + 10 * c ≤ i ∧ i < 10 + 10 * c + 10) → stI (rowI S.2.1 (10 + 10 * c) 10 l) 4 (S.2.1 4 + 1) i = S.2.1 i := fun i h1 h2 => by rw [stI_ne h1, row_out h2]
  have e4 : stI (rowI S.2.1 (10 + 10 * c) 10 l) 4 (S.2.1 4 + 1) 4 = S.2.1 4 + 1 := stI_eq
  have ev : ∀ w, w < 10 → stI (rowI S.2.1 (10 + 10 * c) 10 l) 4 (S.2.1 4 + 1) (10 + 10 * c + w) = vaS (l.getD w (.inl (0, 0))) := fun w hw => by
    rw [stI_ne (by omega), row_in (by omega) (by omega), show 10 + 10 * c + w - (10 + 10 * c) = w from by omega]
  generalize hD : stI (rowI S.2.1 (10 + 10 * c) 10 l) 4 (S.2.1 4 + 1) = D at hd e4 ev
  have e0 := hd 0 (by omega) (by omega)
  have e1 := hd 1 (by omega) (by omega)
  have e2 := hd 2 (by omega) (by omega)
  have e3 := hd 3 (by omega) (by omega)
  have e5 := hd 5 (by omega) (by omega)
  have e6 := hd 6 (by omega) (by omega)
  have e7 := hd 7 (by omega) (by omega)
  have e8 := hd 8 (by omega) (by omega)
  have e9 := hd 9 (by omega) (by omega)
  have e4' : (D 4).toNat = c + 1 := by omega
  refine ⟨PSV_mk (VZ_ch hvz (by omega) (by omega) (by omega) (by omega) (by omega) (by omega) (by omega) (by omega) (by omega) (by omega) (fun d h => ?_) (fun d h => Or.inl ⟨by omega, fun w hw => hd _ (by omega) (by omega)⟩) (fun d h => Or.inl ⟨by omega, fun w hw => hd _ (by omega) (by omega)⟩) (fun d h => Or.inl ⟨by omega, hd _ (by omega) (by omega)⟩) (fun d h => Or.inl ⟨by omega, fun w hw => hd _ (by omega) (by omega)⟩) (fun o h => hd _ (by omega) (by omega)) (fun o h => hd _ (by omega) (by omega)) (fun o h => hd _ (by omega) (by omega))) ?_ (by rw [e6]; exact hNV2) hgv, fun hL => ?_⟩
  · by_cases e : d = c
    · subst e
      right
      unfold rwD
      dsimp only
      rw [show dF D d 0 = _ from ev 0 (by omega), show dF D d 1 = _ from ev 1 (by omega), show dF D d 2 = _ from ev 2 (by omega), show dF D d 3 = _ from ev 3 (by omega), show dF D d 4 = _ from ev 4 (by omega), show dF D d 5 = _ from ev 5 (by omega), show dF D d 6 = _ from ev 6 (by omega), show dF D d 7 = _ from ev 7 (by omega), show dF D d 8 = _ from ev 8 (by omega), show dF D d 9 = _ from ev 9 (by omega)]
      exact ⟨h2 0 (by omega), h2 1 (by omega), h2 2 (by omega), h2 3 (by omega), h2 4 (by omega), h2 5 (by omega), h2 6 (by omega), h2 7 (by omega), h2 8 (by omega), h2 9 (by omega)⟩
    · exact Or.inl ⟨by omega, fun w hw => hd _ (by omega) (by omega)⟩
  · rw [e4']
    exact NV_st hNV1 h9.1
  · have n1 := nt_b (T := T) hL
    have n2 := nt_b (T := T) n1.2
    have e : p1 = ntF T L p2 := h9.2
    rw [h5.2] at e
    have := h4 (by omega)
    show _ ≤ q ∧ q ≤ L
    omega
theorem n_street (hV : PSV T L S) : Nx T L S (sStreet T L S) := by
  intro S' h
  unfold sStreet at h
  obtain ⟨v, q, h1, rfl⟩ := fin_inr h
  obtain ⟨p3, h3, h4⟩ := bnd_inr h1
  have h2 := num_r h4
  obtain ⟨u2, ht2⟩ := nx_inr h3
  have ht2' := ht2
  unfold t2S at ht2'
  obtain ⟨p2, h5, h6⟩ := bnd_inr ht2'
  have h7 := pl_r h6
  obtain ⟨u1, ht1⟩ := nx_inr h5
  have ht1' := ht1
  unfold t1S at ht1'
  obtain ⟨p1, h8, h9⟩ := bnd_inr ht1'
  have h10 := pl_r h9
  have h11 := beg_2 h8
  have x1 : vaS (t1S T L S) = u1 := by rw [ht1]; rfl
  have x2 : vaS (t2S T L S) = u2 := by rw [ht2]; rfl
  have hvz := PSV_vz hV
  obtain ⟨hV1, hV0, hNV1, hNV2, hgv, -, -, -⟩ := hV
  have v0 := hV1.1
  have v1 := hV1.2.1
  have v2 := hV1.2.2.1
  have v3 := hV1.2.2.2.1
  have w0 := hV0.1
  have w2 := hV0.2.1
  have w3 := hV0.2.2.1
  have v4 := hV1.2.2.2.2.1
  have v5 := hV1.2.2.2.2.2.1
  have v6 := hV1.2.2.2.2.2.2.1
  have v7 := hV1.2.2.2.2.2.2.2.1
  have v8 := hV1.2.2.2.2.2.2.2.2.1
  have v9 := hV1.2.2.2.2.2.2.2.2.2.1
  obtain ⟨c, hc⟩ : ∃ c : Nat, S.2.1 7 = (c : Int) := ⟨(S.2.1 7).toNat, by omega⟩
  have ec : (S.2.1 7).toNat = c := by omega
  rw [x1] at h7 ⊢
  rw [x2, ec]
  rw [ec] at h11
  have hv : 1 ≤ v ∧ v ≤ 120 := h2.1
  have r1 : 0 ≤ plR u1 ∧ plR u1 ≤ S.2.1 6 := by
    have := h10.1
    dsimp only at this
    unfold plR
    split <;> omega
  have r2 : 0 ≤ plR u2 ∧ plR u2 ≤ S.2.1 6 := by
    have := h7.1
    dsimp only at this
    unfold plR
    split <;> omega
  have r3 : plR u1 ≠ plR u2 := by
    have q1 := h10.1
    have q2 := h7.1
    have q3 := h7.2.1
    dsimp only at q1 q2 q3
    unfold plR
    split <;> split <;> omega
  generalize plR u1 = y1 at r1 r3 ⊢
  generalize plR u2 = y2 at r2 r3 ⊢
  have hd : ∀ i, i ≠ 7 → ¬ (86 + 4 * c ≤ i ∧ i < 86 + 4 * c + 3) → stI (stI (stI (stI S.2.1 (86 + 4 * c) y1) (86 + 4 * c + 1) y2) (86 + 4 * c + 2) v) 7 (S.2.1 7 + 1) i = S.2.1 i := fun i h1 h2 => by rw [stI_ne h1, stI_ne (by omega), stI_ne (by omega), stI_ne (by omega)]
  have e7 : stI (stI (stI (stI S.2.1 (86 + 4 * c) y1) (86 + 4 * c + 1) y2) (86 + 4 * c + 2) v) 7 (S.2.1 7 + 1) 7 = S.2.1 7 + 1 := stI_eq
  have k0 : stI (stI (stI (stI S.2.1 (86 + 4 * c) y1) (86 + 4 * c + 1) y2) (86 + 4 * c + 2) v) 7 (S.2.1 7 + 1) (86 + 4 * c + 0) = y1 := by rw [stI_ne (by omega), stI_ne (by omega), stI_ne (by omega)]; exact stI_eq
  have k1 : stI (stI (stI (stI S.2.1 (86 + 4 * c) y1) (86 + 4 * c + 1) y2) (86 + 4 * c + 2) v) 7 (S.2.1 7 + 1) (86 + 4 * c + 1) = y2 := by rw [stI_ne (by omega), stI_ne (by omega), stI_eq]
  have k2 : stI (stI (stI (stI S.2.1 (86 + 4 * c) y1) (86 + 4 * c + 1) y2) (86 + 4 * c + 2) v) 7 (S.2.1 7 + 1) (86 + 4 * c + 2) = v := by rw [stI_ne (by omega), stI_eq]
  generalize hD : stI (stI (stI (stI S.2.1 (86 + 4 * c) y1) (86 + 4 * c + 1) y2) (86 + 4 * c + 2) v) 7 (S.2.1 7 + 1) = D at hd e7 k0 k1 k2
  have e0 := hd 0 (by omega) (by omega)
  have e1 := hd 1 (by omega) (by omega)
  have e2 := hd 2 (by omega) (by omega)
  have e3 := hd 3 (by omega) (by omega)
  have e4 := hd 4 (by omega) (by omega)
  have e5 := hd 5 (by omega) (by omega)
  have e6 := hd 6 (by omega) (by omega)
  have e8 := hd 8 (by omega) (by omega)
  have e9 := hd 9 (by omega) (by omega)
  refine ⟨PSV_mk (VZ_ch hvz (by omega) (by omega) (by omega) (by omega) (by omega) (by omega) (by omega) (by omega) (by omega) (by omega) (fun d h => Or.inl ⟨by omega, fun w hw => hd _ (by omega) (by omega)⟩) (fun d h => Or.inl ⟨by omega, fun w hw => hd _ (by omega) (by omega)⟩) (fun d h => ?_) (fun d h => Or.inl ⟨by omega, hd _ (by omega) (by omega)⟩) (fun d h => Or.inl ⟨by omega, fun w hw => hd _ (by omega) (by omega)⟩) (fun o h => hd _ (by omega) (by omega)) (fun o h => hd _ (by omega) (by omega)) (fun o h => hd _ (by omega) (by omega))) (by rw [e4]; exact hNV1) (by rw [e6]; exact hNV2) hgv, fun hL => ?_⟩
  · by_cases e : d = c
    · subst e
      right
      rw [show stF D d 0 = y1 from k0, show stF D d 1 = y2 from k1, show stF D d 2 = v from k2]
      exact ⟨by omega, by omega, r3, hv⟩
    · exact Or.inl ⟨by omega, fun w hw => hd _ (by omega) (by omega)⟩
  · have n1 := nt_b (T := T) hL
    have n2 := nt_b (T := T) n1.2
    have n3 := nt_b (T := T) n2.2
    have n4 := nt_b (T := T) n3.2
    have m1 : p2 = ntF T L p1 := h10.2.2
    have m2 : p3 = ntF T L p2 := h7.2.2
    have m3 : q = ntF T L p3 := h2.2
    rw [h11.2] at m1
    rw [m1] at m2
    rw [m2] at m3
    show _ ≤ q ∧ q ≤ L
    omega
theorem n_order (hV : PSV T L S) : Nx T L S (sOrder T L S) := by
  intro S' h
  unfold sOrder at h
  obtain ⟨v, q, h1, rfl⟩ := fin_inr h
  obtain ⟨p4, h3, h4⟩ := bnd_inr h1
  have h2 := fld_r h4
  obtain ⟨u3, ho3⟩ := nx_inr h3
  have ho3' := ho3
  unfold o3S at ho3'
  obtain ⟨p3, h5, h6⟩ := bnd_inr ho3'
  have h7 := num_r h6
  obtain ⟨u2, ho2⟩ := nx_inr h5
  have ho2' := ho2
  unfold o2S at ho2'
  obtain ⟨p2, h8, h9⟩ := bnd_inr ho2'
  have h10 := knw_r h9
  obtain ⟨u1, ho1⟩ := nx_inr h8
  have ho1' := ho1
  unfold o1S at ho1'
  obtain ⟨p1, h11, h12⟩ := bnd_inr ho1'
  have h13 := knw_r h12
  have h14 := beg_2 h11
  have x1 : vaS (o1S T L S) = u1 := by rw [ho1]; rfl
  have x2 : vaS (o2S T L S) = u2 := by rw [ho2]; rfl
  have x3 : vaS (o3S T L S) = u3 := by rw [ho3]; rfl
  have hvz := PSV_vz hV
  obtain ⟨hV1, hV0, hNV1, hNV2, hgv, -, -, -⟩ := hV
  have v0 := hV1.1
  have v1 := hV1.2.1
  have v2 := hV1.2.2.1
  have v3 := hV1.2.2.2.1
  have w0 := hV0.1
  have w2 := hV0.2.1
  have w3 := hV0.2.2.1
  have v4 := hV1.2.2.2.2.1
  have v5 := hV1.2.2.2.2.2.1
  have v6 := hV1.2.2.2.2.2.2.1
  have v7 := hV1.2.2.2.2.2.2.2.1
  have v8 := hV1.2.2.2.2.2.2.2.2.1
  have v9 := hV1.2.2.2.2.2.2.2.2.2.1
  obtain ⟨c, hc⟩ : ∃ c : Nat, S.2.1 9 = (c : Int) := ⟨(S.2.1 9).toNat, by omega⟩
  have ec : (S.2.1 9).toNat = c := by omega
  rw [x1, x2, x3, ec]
  rw [ec] at h14
  have hv : 0 ≤ v ∧ v ≤ 1439 := h2.1
  have r1 : 0 ≤ u1 ∧ u1 < S.2.1 6 := by
    have := h13.1
    dsimp only at this
    omega
  have r2 : 0 ≤ u2 ∧ u2 < S.2.1 4 := by
    have := h10.1
    dsimp only at this
    omega
  have r3 : 1 ≤ u3 ∧ u3 ≤ 200 := h7.1
  have hd : ∀ i, i ≠ 9 → ¬ (169 + 5 * c ≤ i ∧ i < 169 + 5 * c + 4) → stI (stI (stI (stI (stI S.2.1 (169 + 5 * c) u1) (169 + 5 * c + 1) u2) (169 + 5 * c + 2) u3) (169 + 5 * c + 3) v) 9 (S.2.1 9 + 1) i = S.2.1 i := fun i h1 h2 => by rw [stI_ne h1, stI_ne (by omega), stI_ne (by omega), stI_ne (by omega), stI_ne (by omega)]
  have e9 : stI (stI (stI (stI (stI S.2.1 (169 + 5 * c) u1) (169 + 5 * c + 1) u2) (169 + 5 * c + 2) u3) (169 + 5 * c + 3) v) 9 (S.2.1 9 + 1) 9 = S.2.1 9 + 1 := stI_eq
  have k0 : stI (stI (stI (stI (stI S.2.1 (169 + 5 * c) u1) (169 + 5 * c + 1) u2) (169 + 5 * c + 2) u3) (169 + 5 * c + 3) v) 9 (S.2.1 9 + 1) (169 + 5 * c + 0) = u1 := by rw [stI_ne (by omega), stI_ne (by omega), stI_ne (by omega), stI_ne (by omega)]; exact stI_eq
  have k1 : stI (stI (stI (stI (stI S.2.1 (169 + 5 * c) u1) (169 + 5 * c + 1) u2) (169 + 5 * c + 2) u3) (169 + 5 * c + 3) v) 9 (S.2.1 9 + 1) (169 + 5 * c + 1) = u2 := by rw [stI_ne (by omega), stI_ne (by omega), stI_ne (by omega), stI_eq]
  have k2 : stI (stI (stI (stI (stI S.2.1 (169 + 5 * c) u1) (169 + 5 * c + 1) u2) (169 + 5 * c + 2) u3) (169 + 5 * c + 3) v) 9 (S.2.1 9 + 1) (169 + 5 * c + 2) = u3 := by rw [stI_ne (by omega), stI_ne (by omega), stI_eq]
  have k3 : stI (stI (stI (stI (stI S.2.1 (169 + 5 * c) u1) (169 + 5 * c + 1) u2) (169 + 5 * c + 2) u3) (169 + 5 * c + 3) v) 9 (S.2.1 9 + 1) (169 + 5 * c + 3) = v := by rw [stI_ne (by omega), stI_eq]
  generalize hD : stI (stI (stI (stI (stI S.2.1 (169 + 5 * c) u1) (169 + 5 * c + 1) u2) (169 + 5 * c + 2) u3) (169 + 5 * c + 3) v) 9 (S.2.1 9 + 1) = D at hd e9 k0 k1 k2 k3
  have e0 := hd 0 (by omega) (by omega)
  have e1 := hd 1 (by omega) (by omega)
  have e2 := hd 2 (by omega) (by omega)
  have e3 := hd 3 (by omega) (by omega)
  have e4 := hd 4 (by omega) (by omega)
  have e5 := hd 5 (by omega) (by omega)
  have e6 := hd 6 (by omega) (by omega)
  have e7 := hd 7 (by omega) (by omega)
  have e8 := hd 8 (by omega) (by omega)
  refine ⟨PSV_mk (VZ_ch hvz (by omega) (by omega) (by omega) (by omega) (by omega) (by omega) (by omega) (by omega) (by omega) (by omega) (fun d h => Or.inl ⟨by omega, fun w hw => hd _ (by omega) (by omega)⟩) (fun d h => Or.inl ⟨by omega, fun w hw => hd _ (by omega) (by omega)⟩) (fun d h => Or.inl ⟨by omega, fun w hw => hd _ (by omega) (by omega)⟩) (fun d h => Or.inl ⟨by omega, hd _ (by omega) (by omega)⟩) (fun d h => ?_) (fun o h => hd _ (by omega) (by omega)) (fun o h => hd _ (by omega) (by omega)) (fun o h => hd _ (by omega) (by omega))) (by rw [e4]; exact hNV1) (by rw [e6]; exact hNV2) hgv, fun hL => ?_⟩
  · by_cases e : d = c
    · subst e
      right
      rw [show oF D d 0 = u1 from k0, show oF D d 1 = u2 from k1, show oF D d 2 = u3 from k2, show oF D d 3 = v from k3]
      exact ⟨by omega, by omega, r3, hv⟩
    · exact Or.inl ⟨by omega, fun w hw => hd _ (by omega) (by omega)⟩
  · have n1 := nt_b (T := T) hL
    have n2 := nt_b (T := T) n1.2
    have n3 := nt_b (T := T) n2.2
    have n4 := nt_b (T := T) n3.2
    have n5 := nt_b (T := T) n4.2
    have n6 := nt_b (T := T) n5.2
    have m1 : p2 = ntF T L p1 := h13.2
    have m2 : p3 = ntF T L p2 := h10.2
    have m3 : p4 = ntF T L p3 := h7.2
    have m4 : q = ntF T L (ntF T L p4) := h2.2
    rw [h14.2] at m1
    rw [m1] at m2
    rw [m2] at m3
    rw [m3] at m4
    show _ ≤ q ∧ q ≤ L
    omega
theorem n_all (hV : PSV T L S) (hL : S.1 ≤ L) (h : sAll T L S = .inr S') : PSV T L S' ∧ S.1 < S'.1 ∧ S'.1 ≤ L := by
  unfold sAll at h
  have hst : Nx T L S (sStm T L S) ∧ (kwF T L S.1 = -1 → ∃ f, sStm T L S = .inl f) := by
    unfold sStm
    split
    · exact ⟨n_set (by omega) (Or.inl ⟨rfl, rfl, rfl⟩) hV, fun z => by omega⟩
    split
    · exact ⟨n_set (by omega) (Or.inr (Or.inl ⟨rfl, rfl, rfl⟩)) hV, fun z => by omega⟩
    split
    · exact ⟨n_set (by omega) (Or.inr (Or.inr ⟨Or.inl rfl, rfl, rfl⟩)) hV, fun z => by omega⟩
    split
    · exact ⟨n_set (by omega) (Or.inr (Or.inr ⟨Or.inr rfl, rfl, rfl⟩)) hV, fun z => by omega⟩
    split
    · exact ⟨n_dough hV, fun z => by omega⟩
    split
    · exact ⟨n_oven hV, fun z => by omega⟩
    split
    · exact ⟨n_shop hV, fun z => by omega⟩
    split
    · exact ⟨n_street hV, fun z => by omega⟩
    split
    · exact ⟨n_van hV, fun z => by omega⟩
    split
    · exact ⟨n_order hV, fun z => by omega⟩
    exact ⟨fun S' z => (by cases z), fun _ => ⟨_, rfl⟩⟩
  cases hs : sStm T L S with
  | inl f =>
    rw [hs] at h
    cases h
  | inr S1 =>
    rw [hs] at h
    obtain ⟨h1, h2⟩ := hst.1 _ hs
    have h3 := h2 hL
    have hk : kwF T L S.1 ≠ -1 := fun z => by
      obtain ⟨f, hf⟩ := hst.2 z
      rw [hs] at hf
      cases hf
    have hlt : S.1 < L := by
      have := kw_kind hk
      refine Nat.lt_of_not_le fun z => ?_
      unfold kdF at this
      rw [if_neg (by omega)] at this
      omega
    have h4 := (ntF_spec (T := T) hL).2.2.1 hlt
    have h' : fin1 (rSem T L S1.1) (fun _ q => stP S1 q) = .inr S' := h
    obtain ⟨v, q, h5, rfl⟩ := fin_inr h'
    have h6 : q = ntF T L S1.1 := by
      unfold rSem at h5
      split at h5
      · cases h5; rfl
      · cases h5
    have n1 := nt_b (T := T) h3.2
    refine ⟨h1, ?_, ?_⟩
    · show S.1 < q
      omega
    · show q ≤ L
      omega
end TX10
