/-! the reference: names new and known, places, parts -/
section TX16
variable {T : Nat → Int} {L p cnt : Nat} {σ τ υ : xS} {n b k1 z1 : Nat} {s : RS0} {f : Int × Nat} {nm : Nat → Nat × Nat}
theorem rtNm_f (h : rtNm σ k1 T nm cnt) (hs : ∀ j, j < cnt → τ k1 j = σ k1 j) : rtNm τ k1 T nm cnt := fun i hi => by
  rw [hs i hi]
  exact h i hi
theorem rtS_fine : rtS σ T L s → m_X13_fine σ = match s with | .inl _ => 0 | .inr _ => 1 := by
  intro h
  cases s with
  | inl f => exact r_fineX h
  | inr p => exact r_fineG h
theorem r_fresh (h : rtS σ T L s) (hN : rtNm σ k1 T nm cnt) (hV : NV T nm cnt) (hz : cnt ≤ z1 ∧ z1 ≤ 7) (hk : k1 = 190 ∨ k1 = 191) (hn : 4000000 ≤ n) : OK (m_X13_fresh n k1 z1 cnt σ) (fun x => rtS x.2 T L (nxS (bnd s (rNew T L nm cnt))) ∧ (∀ p, s = .inr p → ∀ q, rNew T L nm cnt p = .inr q → x.1 = dgF 27 T p (enF T L p - p)) ∧ rtf σ x.2) := by
  unfold m_X13_fresh
  refine OK_xbS (r_name h hn) (fun v s1 h1 => ?_)
  obtain ⟨a1, a2, a3, a4⟩ := h1
  dsimp only at a1 a2 a3 a4
  rw [xj_eq]
  cases s with
  | inl f =>
    have hX : rtX s1 T L f := a1
    rw [r_fineX hX, if_pos rfl]
    exact OK_some ⟨hX, fun p z => (by cases z), a4⟩
  | inr p =>
    show OK _ (fun (x : Int × xS) => rtS x.2 T L (nxS (rNew T L nm cnt p)) ∧ (∀ p', (.inr p : RS0) = .inr p' → ∀ q, rNew T L nm cnt p' = .inr q → x.1 = dgF 27 T p' (enF T L p' - p')) ∧ rtf σ x.2)
    have a1' : rtS s1 T L (nxS (rNam T L p)) := a1
    have a2' : ∀ q, rNam T L p = .inr q → v = q.1 := a2
    have a3' := a3 p rfl
    unfold rNam at a1' a2'
    unfold rNew
    by_cases c : nmB T L p = true
    · rw [if_pos c] at a1' a2'
      have hG : rtG s1 T L (ntF T L p) := a1'
      have hv : v = dgF 27 T p (enF T L p - p) := a2' _ rfl
      have hN1 : rtNm s1 k1 T nm cnt := rtNm_f hN (fun j _ => a4 _ _ (by omega))
      rw [r_fineG hG, if_neg (by omega), hv, r_placeOf c hN1 hV hz hn, bind_some']
      have hix := (fsF_spec (fun i => decide (dgF 32 T (nm i).1 (nm i).2 = dgF 32 T p (enF T L p - p))) cnt 0).2.1
      by_cases d : ixN T L nm cnt p < cnt
      · rw [if_pos d, zI_of (n := (ixN T L nm cnt p : Int)) (by omega) (by omega), if_neg (by omega), a3', if_pos c, if_pos d]
        refine OK_bind (r_faultyG hG.1 ⟨_, hG.2.1, hG.2.2.1⟩ hG.2.2.2.1 (c := 3) (q := p) (by omega)) (fun u hu => OK_some ⟨hu.1, fun p' z q hq => ?_, rtf_trans a4 hu.2.1⟩)
        cases z
        rfl
      · rw [if_neg d, show zI (-1) = -1 from rfl, if_pos rfl, if_pos c, if_neg d]
        refine OK_some ⟨hG, fun p' z q hq => ?_, a4⟩
        cases z
        rfl
    · rw [if_neg c] at a1' a2'
      have hX : rtX s1 T L (1, p) := a1'
      rw [r_fineX hX, if_pos rfl, if_neg c]
      refine OK_some ⟨hX, fun p' z q hq => ?_, a4⟩
      cases z
      rw [if_neg c] at hq
      cases hq
theorem r_greater0 {v : Int} (h : -1 ≤ v ∧ v ≤ 7) : m_X13_greater v 0 = if v ≤ 0 then 0 else v := by
  unfold m_X13_greater
  rw [zI_of (n := v) (by omega) (by omega), show zI 0 = 0 from rfl]
theorem r_known (h : rtS σ T L s) (hN : rtNm σ k1 T nm cnt) (hV : NV T nm cnt) (hz : cnt ≤ z1 ∧ z1 ≤ 7) (hk : k1 = 190 ∨ k1 = 191) (hn : 4000000 ≤ n) : OK (m_X13_known n k1 z1 cnt σ) (fun x => rtS x.2 T L (nxS (bnd s (rKnw T L nm cnt))) ∧ (∀ q, bnd s (rKnw T L nm cnt) = .inr q → x.1 = q.1) ∧ (0 ≤ x.1 ∧ x.1 ≤ 7) ∧ rtf σ x.2) := by
  unfold m_X13_known
  refine OK_xbS (r_name h hn) (fun v s1 h1 => ?_)
  obtain ⟨a1, a2, a3, a4⟩ := h1
  dsimp only at a1 a2 a3 a4
  cases s with
  | inl f =>
    have hX : rtX s1 T L f := a1
    rw [r_fineX hX, if_pos rfl]
    exact OK_some ⟨hX, fun p z => (by cases z), ⟨Int.le_refl _, by show (0 : Int) ≤ 7; omega⟩, a4⟩
  | inr p =>
    show OK _ (fun (x : Int × xS) => rtS x.2 T L (nxS (rKnw T L nm cnt p)) ∧ (∀ q, rKnw T L nm cnt p = .inr q → x.1 = q.1) ∧ (0 ≤ x.1 ∧ x.1 ≤ 7) ∧ rtf σ x.2)
    have a1' : rtS s1 T L (nxS (rNam T L p)) := a1
    have a2' : ∀ q, rNam T L p = .inr q → v = q.1 := a2
    have a3' := a3 p rfl
    unfold rNam at a1' a2'
    unfold rKnw
    by_cases c : nmB T L p = true
    · rw [if_pos c] at a1' a2'
      have hG : rtG s1 T L (ntF T L p) := a1'
      have hv : v = dgF 27 T p (enF T L p - p) := a2' _ rfl
      have hN1 : rtNm s1 k1 T nm cnt := rtNm_f hN (fun j _ => a4 _ _ (by omega))
      rw [r_fineG hG, if_neg (by omega), hv, r_placeOf c hN1 hV hz hn, bind_some', xj_eq]
      by_cases d : ixN T L nm cnt p < cnt
      · rw [if_pos d, zI_of (n := (ixN T L nm cnt p : Int)) (by omega) (by omega), if_neg (by omega), if_pos c, if_pos d, r_greater0 (by omega)]
        refine OK_some ⟨hG, fun q hq => ?_, ?_, a4⟩
        · cases hq
          show (if _ then _ else _) = _
          split <;> omega
        · show 0 ≤ (if (ixN T L nm cnt p : Int) ≤ 0 then (0 : Int) else (ixN T L nm cnt p : Int)) ∧ (if (ixN T L nm cnt p : Int) ≤ 0 then (0 : Int) else (ixN T L nm cnt p : Int)) ≤ 7
          split <;> omega
      · rw [if_neg d, show zI (-1) = -1 from rfl, if_pos rfl, a3', if_pos c, if_neg d]
        refine OK_bind (r_faultyG hG.1 ⟨_, hG.2.1, hG.2.2.1⟩ hG.2.2.2.1 (c := 4) (q := p) (by omega)) (fun u hu => ?_)
        rw [r_greater0 (by omega), if_pos (by omega)]
        exact OK_some ⟨hu.1, fun q z => (by cases z), ⟨Int.le_refl _, by show (0 : Int) ≤ 7; omega⟩, rtf_trans a4 hu.2.1⟩
    · rw [if_neg c] at a1' a2'
      have hX : rtX s1 T L (1, p) := a1'
      rw [r_fineX hX, if_pos rfl, if_neg c]
      exact OK_some ⟨hX, fun q z => (by cases z), ⟨Int.le_refl _, by show (0 : Int) ≤ 7; omega⟩, a4⟩
theorem r_place (h : rtS σ T L s) (hN : rtNm σ 191 T nm cnt) (hV : NV T nm cnt) (hz : cnt ≤ 7) (h6 : σ 186 6 = (cnt : Int)) (hn : 4000000 ≤ n) : OK (m_X13_place n σ) (fun x => rtS x.2 T L (nxS (bnd s (rPlc T L nm cnt))) ∧ (∀ q, bnd s (rPlc T L nm cnt) = .inr q → x.1 = plR q.1) ∧ (0 ≤ x.1 ∧ x.1 ≤ 8) ∧ rtf σ x.2) := by
  unfold m_X13_place
  cases s with
  | inl f =>
    have hX : rtX σ T L f := h
    rw [r_takesX hX]
    refine OK_xbS (Q := fun x => x = ((0 : Int), σ)) (OK_some rfl) (fun v s1 h1 => ?_)
    cases h1
    rw [xj_eq, show zI 0 = 0 from rfl, if_pos rfl, xck_of (by omega) (by omega), show (6 : Int).toNat = 6 from rfl, h6]
    refine OK_xbS (r_known (s := .inl f) hX hN hV ⟨hz, by omega⟩ (Or.inr rfl) hn) (fun v2 s7 g => ?_)
    obtain ⟨g1, g2, g3, g4⟩ := g
    dsimp only at g1 g2 g3 g4
    exact OK_some ⟨g1, fun q z => (by cases z), by show 0 ≤ v2 + 1 ∧ v2 + 1 ≤ 8; omega, g4⟩
  | inr p =>
    have hG : rtG σ T L p := h
    show OK _ (fun (x : Int × xS) => rtS x.2 T L (nxS (rPlc T L nm cnt p)) ∧ (∀ q, rPlc T L nm cnt p = .inr q → x.1 = plR q.1) ∧ (0 ≤ x.1 ∧ x.1 ≤ 8) ∧ rtf σ x.2)
    refine OK_xbS (r_takesG hG (w := 23) (by omega) hn) (fun v s1 h1 => ?_)
    obtain ⟨t1, t2⟩ := h1
    dsimp only at t1 t2
    rw [xj_eq]
    unfold rPlc
    have e23 : ((23 : Nat) : Int) = 23 := rfl
    rw [e23] at t1
    by_cases c : kwF T L p = 23
    · rw [if_pos c] at t1 ⊢
      rw [t1.1, show zI 1 = 1 from rfl, if_neg (by omega)]
      refine OK_some ⟨t1.2, fun q hq => ?_, ⟨Int.le_refl _, by show (0 : Int) ≤ 8; omega⟩, rtf_1 t2⟩
      cases hq
      rfl
    · rw [if_neg c] at t1 ⊢
      obtain ⟨t0, tσ⟩ := t1
      subst tσ
      rw [t0, show zI 0 = 0 from rfl, if_pos rfl, xck_of (by omega) (by omega), show (6 : Int).toNat = 6 from rfl, h6]
      refine OK_xbS (r_known (s := .inr p) hG hN hV ⟨hz, by omega⟩ (Or.inr rfl) hn) (fun v2 s7 g => ?_)
      obtain ⟨g1, g2, g3, g4⟩ := g
      dsimp only at g1 g2 g3 g4
      refine OK_some ⟨g1, fun q hq => ?_, by show 0 ≤ v2 + 1 ∧ v2 + 1 ≤ 8; omega, g4⟩
      have hq1 := g2 q hq
      have hr := (knw_r hq).1
      show v2 + 1 = plR q.1
      unfold plR
      rw [hq1, if_neg (by omega)]
/-- a field: word, number, into the draft -/
theorem r_part {w K : Nat} {lo hi : Int} (h : rtS σ T L s) (hw : w < 24) (hlo : 0 ≤ lo ∧ lo ≤ hi ∧ hi ≤ 10000) (hK : K < 289) (hn : 4000000 ≤ n) : OK (m_X13_part n (K : Int) w lo hi σ) (fun τ => rtS τ T L (nxS (bnd s (rFld T L w lo hi))) ∧ (∀ q, bnd s (rFld T L w lo hi) = .inr q → τ 186 K = q.1) ∧ (∀ k j, ¬ (k = 186 ∧ j = K) → ¬ (k = 184 ∧ (j = 11 ∨ j = 12 ∨ j = 13 ∨ j = 14)) → τ k j = σ k j)) := by
  unfold m_X13_part
  refine OK_bind (r_needs h hw hn) (fun s1 h1 => ?_)
  refine OK_xbS (r_number h1.1 hlo hn) (fun v s2 h2 => ?_)
  obtain ⟨a1, a2, a3⟩ := h2
  dsimp only at a1 a2 a3
  have e : bnd (nxS (bnd s (rWrd T L w))) (rNum T L lo hi) = bnd s (rFld T L w lo hi) := by
    cases s with
    | inl f => rfl
    | inr p =>
      show bnd (nxS (rWrd T L w p)) (rNum T L lo hi) = rFld T L w lo hi p
      unfold rWrd rFld
      split <;> rfl
  rw [e] at a1 a2
  rw [zI_of (n := (K : Int)) (by omega) (by omega), xck_of (by omega) (by omega), xlet_eq, tn_cast]
  refine OK_some ⟨rtS_same a1 (fun k j hk => xput_ne (by omega)), fun q hq => ?_, fun k j c1 c2 => ?_⟩
  · rw [xput_eq]
    exact a2 q hq
  · rw [xput_ne c1, a3 _ _ c2]
    exact h1.2 _ _ c2
end TX16
