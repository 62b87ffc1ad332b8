/-! the reference: names and places -/
section TX15
variable {T : Nat → Int} {L p cnt : Nat} {σ τ υ : xS} {n b k1 z1 : Nat} {s : RS0} {f : Int × Nat} {nm : Nat → Nat × Nat}
theorem r_faultyG2 (hB : rtB σ T L) (hp : ∃ p : Nat, σ 184 11 = (p : Int) ∧ p ≤ L) (h0 : σ 184 12 = 0) {c : Int} {q : Nat} (hc : 1 ≤ c ∧ c ≤ 5) : OK (m_X13_faulty c (q : Int) σ) (fun τ => rtX τ T L (c, q) ∧ ∀ k j, ¬ (k = 184 ∧ (j = 12 ∨ j = 13)) → τ k j = σ k j) := by
  unfold m_X13_faulty
  rw [h0, show zI 0 = 0 from rfl, if_pos rfl, xlet_eq, xlet_eq]
  have hf : ∀ k j, ¬ (k = 184 ∧ (j = 12 ∨ j = 13)) → (xput (xput σ 184 12 c) 184 13 (q : Int)) k j = σ k j := fun k j hk => by rw [xput_ne (by omega), xput_ne (by omega)]
  obtain ⟨p, hp1, hp2⟩ := hp
  refine OK_some ⟨⟨rtB_same hB (fun k j hk => hf k j (by omega)), ⟨p, by rw [hf _ _ (by omega)]; exact hp1, hp2⟩, ?_, xput_eq, hc⟩, fun k j hk => hf k j hk⟩
  rw [xput_ne (by omega), xput_eq]
theorem r_isKeyword (h : rtG σ T L p) (hn : 4000000 ≤ n) : m_X13_isKeyword n σ = some (if kwF T L p = -1 then 0 else 1) := by
  obtain ⟨h1, h2, h3, h4, h5⟩ := h
  have hw : ∀ w, w < 24 → m_X13_isWord n w σ = some (if iwB T L p w = true then 1 else 0) := fun w hw => r_isWord h1 h2 h3 h4 hw hn
  have hy : ∀ w : Nat, w < 24 → iwB T L p w = true → (if kwF T L p = -1 then (0 : Int) else 1) = 1 := fun w hw c => by
    have := (kw_iff hw).mpr c
    rw [if_neg (by omega)]
  unfold m_X13_isKeyword
  simp only [xj_eq]
  rw [hw 0 (by omega), bind_some']
  by_cases c0 : iwB T L p 0 = true
  · rw [if_pos c0, show zI 1 = 1 from rfl, if_neg (by omega), hy 0 (by omega) c0]
    try rfl
  rw [if_neg c0, show zI 0 = 0 from rfl, if_pos rfl]
  rw [hw 1 (by omega), bind_some']
  by_cases c1 : iwB T L p 1 = true
  · rw [if_pos c1, show zI 1 = 1 from rfl, if_neg (by omega), hy 1 (by omega) c1]
    try rfl
  rw [if_neg c1, show zI 0 = 0 from rfl, if_pos rfl]
  rw [hw 2 (by omega), bind_some']
  by_cases c2 : iwB T L p 2 = true
  · rw [if_pos c2, show zI 1 = 1 from rfl, if_neg (by omega), hy 2 (by omega) c2]
    try rfl
  rw [if_neg c2, show zI 0 = 0 from rfl, if_pos rfl]
  rw [hw 3 (by omega), bind_some']
  by_cases c3 : iwB T L p 3 = true
  · rw [if_pos c3, show zI 1 = 1 from rfl, if_neg (by omega), hy 3 (by omega) c3]
    try rfl
  rw [if_neg c3, show zI 0 = 0 from rfl, if_pos rfl]
  rw [hw 4 (by omega), bind_some']
  by_cases c4 : iwB T L p 4 = true
  · rw [if_pos c4, show zI 1 = 1 from rfl, if_neg (by omega), hy 4 (by omega) c4]
    try rfl
  rw [if_neg c4, show zI 0 = 0 from rfl, if_pos rfl]
  rw [hw 5 (by omega), bind_some']
  by_cases c5 : iwB T L p 5 = true
  · rw [if_pos c5, show zI 1 = 1 from rfl, if_neg (by omega), hy 5 (by omega) c5]
    try rfl
  rw [if_neg c5, show zI 0 = 0 from rfl, if_pos rfl]
  rw [hw 6 (by omega), bind_some']
  by_cases c6 : iwB T L p 6 = true
  · rw [if_pos c6, show zI 1 = 1 from rfl, if_neg (by omega), hy 6 (by omega) c6]
    try rfl
  rw [if_neg c6, show zI 0 = 0 from rfl, if_pos rfl]
  rw [hw 7 (by omega), bind_some']
  by_cases c7 : iwB T L p 7 = true
  · rw [if_pos c7, show zI 1 = 1 from rfl, if_neg (by omega), hy 7 (by omega) c7]
    try rfl
  rw [if_neg c7, show zI 0 = 0 from rfl, if_pos rfl]
  rw [hw 8 (by omega), bind_some']
  by_cases c8 : iwB T L p 8 = true
  · rw [if_pos c8, show zI 1 = 1 from rfl, if_neg (by omega), hy 8 (by omega) c8]
    try rfl
  rw [if_neg c8, show zI 0 = 0 from rfl, if_pos rfl]
  rw [hw 9 (by omega), bind_some']
  by_cases c9 : iwB T L p 9 = true
  · rw [if_pos c9, show zI 1 = 1 from rfl, if_neg (by omega), hy 9 (by omega) c9]
    try rfl
  rw [if_neg c9, show zI 0 = 0 from rfl, if_pos rfl]
  rw [hw 10 (by omega), bind_some']
  by_cases c10 : iwB T L p 10 = true
  · rw [if_pos c10, show zI 1 = 1 from rfl, if_neg (by omega), hy 10 (by omega) c10]
    try rfl
  rw [if_neg c10, show zI 0 = 0 from rfl, if_pos rfl]
  rw [hw 11 (by omega), bind_some']
  by_cases c11 : iwB T L p 11 = true
  · rw [if_pos c11, show zI 1 = 1 from rfl, if_neg (by omega), hy 11 (by omega) c11]
    try rfl
  rw [if_neg c11, show zI 0 = 0 from rfl, if_pos rfl]
  rw [hw 12 (by omega), bind_some']
  by_cases c12 : iwB T L p 12 = true
  · rw [if_pos c12, show zI 1 = 1 from rfl, if_neg (by omega), hy 12 (by omega) c12]
    try rfl
  rw [if_neg c12, show zI 0 = 0 from rfl, if_pos rfl]
  rw [hw 13 (by omega), bind_some']
  by_cases c13 : iwB T L p 13 = true
  · rw [if_pos c13, show zI 1 = 1 from rfl, if_neg (by omega), hy 13 (by omega) c13]
    try rfl
  rw [if_neg c13, show zI 0 = 0 from rfl, if_pos rfl]
  rw [hw 14 (by omega), bind_some']
  by_cases c14 : iwB T L p 14 = true
  · rw [if_pos c14, show zI 1 = 1 from rfl, if_neg (by omega), hy 14 (by omega) c14]
    try rfl
  rw [if_neg c14, show zI 0 = 0 from rfl, if_pos rfl]
  rw [hw 15 (by omega), bind_some']
  by_cases c15 : iwB T L p 15 = true
  · rw [if_pos c15, show zI 1 = 1 from rfl, if_neg (by omega), hy 15 (by omega) c15]
    try rfl
  rw [if_neg c15, show zI 0 = 0 from rfl, if_pos rfl]
  rw [hw 16 (by omega), bind_some']
  by_cases c16 : iwB T L p 16 = true
  · rw [if_pos c16, show zI 1 = 1 from rfl, if_neg (by omega), hy 16 (by omega) c16]
    try rfl
  rw [if_neg c16, show zI 0 = 0 from rfl, if_pos rfl]
  rw [hw 17 (by omega), bind_some']
  by_cases c17 : iwB T L p 17 = true
  · rw [if_pos c17, show zI 1 = 1 from rfl, if_neg (by omega), hy 17 (by omega) c17]
    try rfl
  rw [if_neg c17, show zI 0 = 0 from rfl, if_pos rfl]
  rw [hw 18 (by omega), bind_some']
  by_cases c18 : iwB T L p 18 = true
  · rw [if_pos c18, show zI 1 = 1 from rfl, if_neg (by omega), hy 18 (by omega) c18]
    try rfl
  rw [if_neg c18, show zI 0 = 0 from rfl, if_pos rfl]
  rw [hw 19 (by omega), bind_some']
  by_cases c19 : iwB T L p 19 = true
  · rw [if_pos c19, show zI 1 = 1 from rfl, if_neg (by omega), hy 19 (by omega) c19]
    try rfl
  rw [if_neg c19, show zI 0 = 0 from rfl, if_pos rfl]
  rw [hw 20 (by omega), bind_some']
  by_cases c20 : iwB T L p 20 = true
  · rw [if_pos c20, show zI 1 = 1 from rfl, if_neg (by omega), hy 20 (by omega) c20]
    try rfl
  rw [if_neg c20, show zI 0 = 0 from rfl, if_pos rfl]
  rw [hw 21 (by omega), bind_some']
  by_cases c21 : iwB T L p 21 = true
  · rw [if_pos c21, show zI 1 = 1 from rfl, if_neg (by omega), hy 21 (by omega) c21]
    try rfl
  rw [if_neg c21, show zI 0 = 0 from rfl, if_pos rfl]
  rw [hw 22 (by omega), bind_some']
  by_cases c22 : iwB T L p 22 = true
  · rw [if_pos c22, show zI 1 = 1 from rfl, if_neg (by omega), hy 22 (by omega) c22]
    try rfl
  rw [if_neg c22, show zI 0 = 0 from rfl, if_pos rfl]
  rw [hw 23 (by omega), bind_some']
  by_cases c23 : iwB T L p 23 = true
  · rw [if_pos c23, show zI 1 = 1 from rfl, if_neg (by omega), hy 23 (by omega) c23]
    try rfl
  rw [if_neg c23, show zI 0 = 0 from rfl, if_pos rfl]
  have hno : kwF T L p = -1 := by
    have hk := kw_bd (T := T) (L := L) (p := p)
    by_cases z : kwF T L p = -1
    · exact z
    · exfalso
      obtain ⟨w, hw'⟩ : ∃ w : Nat, kwF T L p = (w : Int) := ⟨(kwF T L p).toNat, by omega⟩
      have hw24 : w < 24 := by omega
      have hwb := (kw_iff hw24).mp hw'
      have : w = 0 ∨ w = 1 ∨ w = 2 ∨ w = 3 ∨ w = 4 ∨ w = 5 ∨ w = 6 ∨ w = 7 ∨ w = 8 ∨ w = 9 ∨ w = 10 ∨ w = 11 ∨ w = 12 ∨ w = 13 ∨ w = 14 ∨ w = 15 ∨ w = 16 ∨ w = 17 ∨ w = 18 ∨ w = 19 ∨ w = 20 ∨ w = 21 ∨ w = 22 ∨ w = 23 := by omega
      rcases this with rfl | rfl | rfl | rfl | rfl | rfl | rfl | rfl | rfl | rfl | rfl | rfl | rfl | rfl | rfl | rfl | rfl | rfl | rfl | rfl | rfl | rfl | rfl | rfl
      · exact c0 hwb
      · exact c1 hwb
      · exact c2 hwb
      · exact c3 hwb
      · exact c4 hwb
      · exact c5 hwb
      · exact c6 hwb
      · exact c7 hwb
      · exact c8 hwb
      · exact c9 hwb
      · exact c10 hwb
      · exact c11 hwb
      · exact c12 hwb
      · exact c13 hwb
      · exact c14 hwb
      · exact c15 hwb
      · exact c16 hwb
      · exact c17 hwb
      · exact c18 hwb
      · exact c19 hwb
      · exact c20 hwb
      · exact c21 hwb
      · exact c22 hwb
      · exact c23 hwb
  rw [if_pos hno]
  rfl
/-- a name, as a number -/
def rNam (T : Nat → Int) (L : Nat) (p : Nat) : RS1 := if nmB T L p = true then .inr (dgF 27 T p (enF T L p - p), ntF T L p) else .inl (1, p)
theorem nm_wl (hp : p ≤ L) : nmB T L p = true ↔ wlT T L p ≠ 0 ∧ wlT T L p ≤ 8 ∧ kwF T L p = -1 := by
  have e := enF_spec (T := T) hp
  rw [nmB_iff]
  unfold wlT
  by_cases h : kdF T L p = 1
  · rw [if_pos h]
    have hlt : p < L := by
      refine Nat.lt_of_not_le fun z => ?_
      unfold kdF at h
      rw [if_neg (by omega)] at h
      omega
    have := e.2.2 hlt
    omega
  · rw [if_neg h]
    omega
theorem r_name (h : rtS σ T L s) (hn : 4000000 ≤ n) : OK (m_X13_name n σ) (fun x => rtS x.2 T L (nxS (bnd s (rNam T L))) ∧ (∀ q, bnd s (rNam T L) = .inr q → x.1 = q.1) ∧ (∀ p, s = .inr p → x.2 184 14 = (p : Int)) ∧ rtf σ x.2) := by
  unfold m_X13_name
  cases s with
  | inl f =>
    have hX : rtX σ T L f := h
    rw [r_fineX hX, if_pos rfl]
    exact OK_some ⟨hX, fun q z => (by cases z), fun p z => (by cases z), rtf_refl⟩
  | inr p =>
    have hG : rtG σ T L p := h
    obtain ⟨h1, h2, h3, h4, h5⟩ := h
    have hT := h1.2.2.2
    have hL := h1.2.2.1
    obtain ⟨d1, d2, d3⟩ := wlT_spec (T := T) h3
    rw [r_fineG hG, if_neg (by omega), xlet_eq, h2]
    show OK _ (fun (x : Int × xS) => rtS x.2 T L (nxS (rNam T L p)) ∧ (∀ q, rNam T L p = .inr q → x.1 = q.1) ∧ (∀ p', (.inr p : RS0) = .inr p' → x.2 184 14 = (p' : Int)) ∧ rtf σ x.2)
    have hf2 : rtf σ (xput σ 184 14 (p : Int)) := fun k j hk => xput_ne (by omega)
    have hG2 : rtG (xput σ 184 14 (p : Int)) T L p := rtS_same (s := .inr p) hG (fun k j hk => xput_ne (by omega))
    have h14 : (xput σ 184 14 (p : Int)) 184 14 = (p : Int) := xput_eq
    generalize xput σ 184 14 (p : Int) = s2 at hf2 hG2 h14 ⊢
    have hG2' := hG2
    obtain ⟨k1, k2, k3, k4, k5⟩ := hG2'
    rw [r_wordLength k1 k2 k3 hn, bind_some', xj_eq, xj_eq]
    have hnw := nm_wl (T := T) h3
    have bad : ¬ nmB T L p = true → ∀ G : xS → Option (Int × xS), OK ((m_X13_faulty 1 (s2 184 11) s2).bind fun u => if (m_X13_fine u) = 0 then some (0, u) else G u) (fun (x : Int × xS) => rtS x.2 T L (nxS (rNam T L p)) ∧ (∀ q, rNam T L p = .inr q → x.1 = q.1) ∧ (∀ p', (.inr p : RS0) = .inr p' → x.2 184 14 = (p' : Int)) ∧ rtf σ x.2) := fun hnb G => by
      rw [k2]
      refine OK_bind (r_faultyG2 k1 ⟨p, k2, k3⟩ k4 (c := 1) (q := p) (by omega)) (fun u hu => ?_)
      rw [r_fineX hu.1, if_pos rfl]
      unfold rNam
      rw [if_neg hnb]
      refine OK_some ⟨hu.1, fun q z => (by cases z), fun p' z => ?_, fun k j hk => ?_⟩
      · cases z
        show u 184 14 = _
        rw [hu.2 _ _ (by omega)]
        exact h14
      · show u k j = _
        rw [hu.2 _ _ (by omega)]
        exact hf2 k j hk
    dsimp only
    rw [zI_of (n := (wlT T L p : Int)) (by omega) (by omega)]
    by_cases c0 : wlT T L p = 0
    · rw [if_pos (by omega)]
      exact bad (fun z => (hnw.mp z).1 c0) _
    rw [if_neg (by omega)]
    by_cases c8 : 8 < wlT T L p
    · rw [if_pos (by omega)]
      exact bad (fun z => by have := (hnw.mp z).2.1; omega) _
    rw [if_neg (by omega), r_isKeyword hG2 hn, bind_some']
    by_cases ck : kwF T L p = -1
    · rw [if_pos ck, show zI 0 = 0 from rfl, if_pos rfl, r_fineG hG2, if_neg (by omega)]
      have hnm := hnw.mpr ⟨c0, by omega, ck⟩
      obtain ⟨l1, l2, l3, l4⟩ := nm_letters hnm
      have hwe : wlT T L p = enF T L p - p := by
        unfold wlT
        rw [if_pos (nmB_iff.mp hnm).1]
      have e := enF_spec (T := T) h3
      refine loop_for (wlT T L p) (fun i (t : Int × Int) => t.1 = dgF 27 T p i ∧ t.2 = (i : Int)) ?_ ?_ (by omega) ⟨rfl, rfl⟩
      · rintro i t hi ⟨g1, g2⟩ rec hrec
        have hl := l4 i (by omega)
        have hbe : byT T L (p + i) = T (p + i) := by
          unfold byT
          rw [if_pos (d1 i hi).1, if_neg (by omega)]
        simp only [g2]
        rw [zI_of (n := (i : Int)) (by omega) (by omega), if_neg (by omega), k2, show (p : Int) + (i : Int) = ((p + i : Nat) : Int) from by omega, r_byteAt k1 (by omega), bind_some', hbe, zI_of (n := T (p + i)) (by omega) (by omega), xlet_eq, xlet_eq]
        refine hrec _ ⟨?_, ?_⟩
        · show 27 * t.1 + T (p + i) - 97 + 1 = dgF 27 T p (i + 1)
          rw [g1, dgF]
          omega
        · show (i : Int) + 1 = _
          omega
      · rintro t ⟨g1, g2⟩ rec
        simp only [g2]
        rw [zI_of (n := (wlT T L p : Int)) (by omega) (by omega), if_pos (by omega), xlet_eq, k2, show (p : Int) + (wlT T L p : Int) = ((enF T L p : Nat) : Int) from by omega]
        refine OK_bind (r_skipsG hG2 e.2.1 hn) (fun u hu => ?_)
        unfold rNam
        rw [if_pos hnm]
        refine OK_some ⟨hu.1, fun q z => ?_, fun p' z => ?_, fun k j hk => ?_⟩
        · cases z
          show t.1 = _
          rw [g1, hwe]
        · cases z
          show u 184 14 = _
          rw [hu.2 _ _ (by omega)]
          exact h14
        · show u k j = _
          rw [hu.2 _ _ (by omega)]
          exact hf2 k j hk
    · rw [if_neg ck, show zI 1 = 1 from rfl, if_neg (by omega)]
      exact bad (fun z => ck (hnw.mp z).2.2) _
/-- the reference's names -/
def rtNm (σ : xS) (k1 : Nat) (T : Nat → Int) (nm : Nat → Nat × Nat) (cnt : Nat) : Prop := ∀ i, i < cnt → σ k1 i = dgF 27 T (nm i).1 (nm i).2
theorem r_placeOf (hnm : nmB T L p = true) (hN : rtNm σ k1 T nm cnt) (hV : NV T nm cnt) (hz : cnt ≤ z1 ∧ z1 ≤ 7) (hn : 4000000 ≤ n) : m_X13_placeOf n k1 z1 cnt (dgF 27 T p (enF T L p - p)) σ = some (if ixN T L nm cnt p < cnt then (ixN T L nm cnt p : Int) else -1) := by
  obtain ⟨l1, l2, l3, l4⟩ := nm_letters hnm
  have hd := dg_b8 (b := 27) (Or.inl rfl) l1 l4
  obtain ⟨m1, m2, m3, m4⟩ := fsF_spec (fun i => decide (dgF 32 T (nm i).1 (nm i).2 = dgF 32 T p (enF T L p - p))) cnt 0
  have e : ixN T L nm cnt p = fsF (fun i => decide (dgF 32 T (nm i).1 (nm i).2 = dgF 32 T p (enF T L p - p))) cnt 0 := rfl
  rw [← e] at m1 m2 m3 m4
  have hsame : ∀ i, i < cnt → (dgF 27 T (nm i).1 (nm i).2 = dgF 27 T p (enF T L p - p) ↔ dgF 32 T (nm i).1 (nm i).2 = dgF 32 T p (enF T L p - p)) := fun i hi => by
    have hv := hV i hi
    rw [dg_inj (b := 27) (by omega) _ _ hv.2 l4, dg_inj (b := 32) (by omega) _ _ hv.2 l4]
  have hcmp : ∀ i, i < cnt → zI (zcmp (σ k1 i) (dgF 27 T p (enF T L p - p))) = if dgF 27 T (nm i).1 (nm i).2 < dgF 27 T p (enF T L p - p) then -1 else if dgF 27 T (nm i).1 (nm i).2 = dgF 27 T p (enF T L p - p) then 0 else 1 := fun i hi => by
    have hv := hV i hi
    have hd2 := dg_b8 (b := 27) (Or.inl rfl) hv.1 hv.2
    rw [hN i hi, zcmp_of (by omega) (by omega) (by omega) (by omega)]
  unfold m_X13_placeOf
  refine loop_eq (ixN T L nm cnt p) (fun i => (i : Int)) rfl ?_ ?_ (by omega)
  · intro i hi rec
    have hne := m4 i (by omega) hi
    rw [decide_eq_false_iff_not] at hne
    have hne' : ¬ dgF 27 T (nm i).1 (nm i).2 = dgF 27 T p (enF T L p - p) := fun z => hne ((hsame i (by omega)).mp z)
    try dsimp only
    rw [zI_of (n := (cnt : Int)) (by omega) (by omega), zI_of (n := (i : Int)) (by omega) (by omega), if_neg (by omega), xck_of (by omega) (by omega)]
    simp only [tn_cast]
    rw [hcmp i (by omega), if_neg, xlet_eq]
    · rfl
    · split
      · omega
      · first | omega | (rw [if_neg hne']; omega)
  · intro rec
    try dsimp only
    by_cases c : ixN T L nm cnt p < cnt
    · have hy := m3 (by omega)
      rw [decide_eq_true_eq] at hy
      have hy' := (hsame _ c).mpr hy
      rw [if_pos c, zI_of (n := (cnt : Int)) (by omega) (by omega), zI_of (n := (ixN T L nm cnt p : Int)) (by omega) (by omega), if_neg (by omega), xck_of (by omega) (by omega)]
      simp only [tn_cast]
      have hz0 : zI (zcmp (σ k1 (ixN T L nm cnt p)) (dgF 27 T p (enF T L p - p))) = 0 := by
        rw [hcmp _ c, if_neg (by rw [hy']; exact Int.lt_irrefl _), if_pos hy']
      rw [hz0, if_pos rfl]
    · rw [if_neg c, zI_of (n := (cnt : Int)) (by omega) (by omega), zI_of (n := (ixN T L nm cnt p : Int)) (by omega) (by omega), if_pos (by omega)]
end TX15
