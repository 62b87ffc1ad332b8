/-! the class's parser: names, places, settings -/
section TX4
variable {T : Nat → Int} {L p : Nat} {σ τ υ : xS} {n : Nat} {s : RS0} {f : Int × Nat} {nm : Nat → Nat × Nat} {cnt z1 k1 : Nat}
/-- names that were read -/
def NV (T : Nat → Int) (nm : Nat → Nat × Nat) (cnt : Nat) : Prop := ∀ i, i < cnt → (nm i).2 ≤ 8 ∧ ∀ j, j < (nm i).2 → 97 ≤ T ((nm i).1 + j) ∧ T ((nm i).1 + j) ≤ 122
theorem dg_bd {b : Int} (hb : 27 ≤ b ∧ b ≤ 32) {q : Nat} : ∀ k, (∀ j, j < k → 97 ≤ T (q + j) ∧ T (q + j) ≤ 122) → 0 ≤ dgF b T q k ∧ dgF b T q k < b ^ k
  | 0, _ => by
    show (0 : Int) ≤ 0 ∧ (0 : Int) < b ^ 0
    rw [Int.pow_zero]
    omega
  | k + 1, h => by
    have ih := dg_bd hb (q := q) k (fun j hj => h j (by omega))
    have hk := h k (by omega)
    have h1 : 0 ≤ dgF b T q k * b := Int.mul_nonneg ih.1 (by omega)
    have h2 : (dgF b T q k + 1) * b ≤ b ^ k * b := Int.mul_le_mul_of_nonneg_right (by omega) (by omega)
    rw [Int.add_mul, Int.one_mul] at h2
    rw [dgF, Int.pow_succ]
    omega
theorem pow_8 {b : Int} (hb : b = 27 ∨ b = 32) {k : Nat} (hk : k ≤ 8) : b ^ k ≤ 1099511627776 := by
  have : k = 0 ∨ k = 1 ∨ k = 2 ∨ k = 3 ∨ k = 4 ∨ k = 5 ∨ k = 6 ∨ k = 7 ∨ k = 8 := by omega
  rcases hb with rfl | rfl <;> rcases this with rfl | rfl | rfl | rfl | rfl | rfl | rfl | rfl | rfl <;> decide
theorem dg_b8 {b : Int} (hb : b = 27 ∨ b = 32) {q k : Nat} (hk : k ≤ 8) (h : ∀ j, j < k → 97 ≤ T (q + j) ∧ T (q + j) ≤ 122) : 0 ≤ dgF b T q k ∧ dgF b T q k < 1099511627776 := by
  have h1 := dg_bd (b := b) (by omega) k h
  have h2 := pow_8 hb hk
  omega
theorem nm_letters (h : nmB T L p = true) : enF T L p - p ≤ 8 ∧ 0 < enF T L p - p ∧ p < L ∧ ∀ j, j < enF T L p - p → 97 ≤ T (p + j) ∧ T (p + j) ≤ 122 := by
  obtain ⟨h1, h2, h3⟩ := nmB_iff.mp h
  have hp : p < L := by
    refine Nat.lt_of_not_le fun z => ?_
    unfold kdF at h1
    rw [if_neg (by omega)] at h1
    omega
  have hk : kF (T p) = 1 := by
    unfold kdF at h1
    rw [if_pos hp] at h1
    exact h1
  have he := enF_spec (T := T) (L := L) (p := p) (by omega)
  exact ⟨by omega, by have := he.2.2 hp; omega, hp, fun j hj => kF_1.mp ((run_kind hp (by omega) (i := j) (by omega)).trans hk)⟩
/-- the class's row of names -/
def CN (σ : xS) (k1 : Nat) (T : Nat → Int) (nm : Nat → Nat × Nat) (cnt : Nat) : Prop := ∀ i, i < cnt → σ k1 i = dgF 32 T (nm i).1 (nm i).2
theorem c_indexAny (h : SC σ T L p) (hz : cnt ≤ z1 ∧ z1 ≤ 7) (hn : 4000000 ≤ n) : OK (m_X7_indexOfName n k1 z1 cnt σ) (fun _ => True) := by
  unfold m_X7_indexOfName
  rw [c_letters h hn, bind_some']
  refine loop_for cnt (fun i (t : Int) => t = (i : Int)) ?_ ?_ (by omega) rfl
  · rintro i t hi rfl rec hrec
    try dsimp only
    rw [zI_of (n := (cnt : Int)) (by omega) (by omega), zI_of (n := (i : Int)) (by omega) (by omega), if_neg (by omega), xck_of (by omega) (by omega)]
    split
    · exact OK_some trivial
    · rw [xlet_eq]
      exact hrec _ (by omega)
  · rintro t rfl rec
    try dsimp only
    rw [if_pos (Int.le_refl _)]
    exact OK_some trivial
theorem c_indexOfName (h : SC σ T L p) (hnm : nmB T L p = true) (hN : CN σ k1 T nm cnt) (hV : NV T nm cnt) (hz : cnt ≤ z1 ∧ z1 ≤ 7) (hn : 4000000 ≤ n) : m_X7_indexOfName n k1 z1 cnt σ = some (if ixN T L nm cnt p < cnt then (ixN T L nm cnt p : Int) else -1) := by
  obtain ⟨l1, l2, l3, l4⟩ := nm_letters hnm
  have hd := dg_b8 (b := 32) (Or.inr rfl) l1 l4
  obtain ⟨m1, m2, m3, m4⟩ := fsF_spec (fun i => decide (dgF 32 T (nm i).1 (nm i).2 = dgF 32 T p (enF T L p - p))) cnt 0
  have e : ixN T L nm cnt p = fsF (fun i => decide (dgF 32 T (nm i).1 (nm i).2 = dgF 32 T p (enF T L p - p))) cnt 0 := rfl
  rw [← e] at m1 m2 m3 m4
  have hcmp : ∀ i, i < cnt → zI (zcmp (σ k1 i) (dgF 32 T p (enF T L p - p))) = if dgF 32 T (nm i).1 (nm i).2 < dgF 32 T p (enF T L p - p) then -1 else if dgF 32 T (nm i).1 (nm i).2 = dgF 32 T p (enF T L p - p) then 0 else 1 := fun i hi => by
    have hv := hV i hi
    have hd2 := dg_b8 (b := 32) (Or.inr rfl) hv.1 hv.2
    rw [hN i hi, zcmp_of (by omega) (by omega) (by omega) (by omega)]
  unfold m_X7_indexOfName
  rw [c_letters h hn, bind_some']
  refine loop_eq (ixN T L nm cnt p) (fun i => (i : Int)) rfl ?_ ?_ (by omega)
  · intro i hi rec
    have hne := m4 i (by omega) hi
    rw [decide_eq_false_iff_not] at hne
    try dsimp only
    rw [zI_of (n := (cnt : Int)) (by omega) (by omega), zI_of (n := (i : Int)) (by omega) (by omega), if_neg (by omega), xck_of (by omega) (by omega)]
    simp only [tn_cast]
    rw [hcmp i (by omega), if_neg, xlet_eq]
    · rfl
    · split
      · omega
      · first | omega | (rw [if_neg hne]; omega)
  · intro rec
    try dsimp only
    by_cases c : ixN T L nm cnt p < cnt
    · have hy := m3 (by omega)
      rw [decide_eq_true_eq] at hy
      rw [if_pos c, zI_of (n := (cnt : Int)) (by omega) (by omega), zI_of (n := (ixN T L nm cnt p : Int)) (by omega) (by omega), if_neg (by omega), xck_of (by omega) (by omega)]
      simp only [tn_cast]
      have hz0 : zI (zcmp (σ k1 (ixN T L nm cnt p)) (dgF 32 T p (enF T L p - p))) = 0 := by
        rw [hcmp _ c, if_neg (by rw [hy]; exact Int.lt_irrefl _), if_pos hy]
      rw [hz0, if_pos rfl]
    · rw [if_neg c, zI_of (n := (cnt : Int)) (by omega) (by omega), zI_of (n := (ixN T L nm cnt p : Int)) (by omega) (by omega), if_pos (by omega)]
theorem c_readKnownName (h : CS σ T L s) (hN : CN σ k1 T nm cnt) (hV : NV T nm cnt) (hz : cnt ≤ z1 ∧ z1 ≤ 7) (hn : 4000000 ≤ n) : OK (m_X7_readKnownName n k1 z1 cnt σ) (fun x => CR x.2 T L (bnd s (rKnw T L nm cnt)) x.1 ∧ pfC σ x.2) := by
  obtain ⟨p, hsc⟩ := CS_sc h
  unfold m_X7_readKnownName
  rw [xlet_eq, c_isName hsc hn, bind_some', xj_eq]
  have bad : ∀ (v : Int) (υ : xS) (g : Int × Nat), CX υ T L g → pfC σ υ → OK ((fun (q6 : Int × xS) => xj (fun (q10 : xS) => some (q6.1, q10)) fun J8 => if (m_X7_failed q6.2) = 0 then (m_X10_next n q6.2).bind fun s12 => J8 s12 else J8 q6.2) (v, υ)) (fun x => CR x.2 T L (.inl g) x.1 ∧ pfC σ x.2) := fun v υ g hu hp => by
    try dsimp only
    rw [xj_eq, c_failX hu, if_neg (by omega)]
    exact OK_some ⟨⟨hu, fun q e => by cases e⟩, hp⟩
  cases s with
  | inl f =>
    by_cases c : nmB T L p = true
    · rw [if_pos c, zI_of (n := 1) (by omega) (by omega), if_neg (by omega)]
      refine OK_bind (c_indexAny hsc hz hn) (fun v _ => ?_)
      split
      · refine OK_bind (c_fail (c := 4) h (by omega)) (fun υ g => ?_)
        exact bad v υ f g.1 g.2
      · exact bad v σ f h pfC_refl
    · rw [if_neg c, zI_of (n := 0) (by omega) (by omega), if_pos rfl]
      refine OK_bind (c_fail (c := 1) h (by omega)) (fun υ g => ?_)
      exact bad (-1) υ f g.1 g.2
  | inr q =>
    have hq := SC_at hsc h.1
    subst hq
    by_cases c : nmB T L q = true
    · have hix : ixN T L nm cnt q ≤ 7 := by
        have h2 := (fsF_spec (fun i => decide (dgF 32 T (nm i).1 (nm i).2 = dgF 32 T q (enF T L q - q))) cnt 0).2.1
        have e : ixN T L nm cnt q = fsF (fun i => decide (dgF 32 T (nm i).1 (nm i).2 = dgF 32 T q (enF T L q - q))) cnt 0 := rfl
        omega
      rw [if_pos c, zI_of (n := 1) (by omega) (by omega), if_neg (by omega), c_indexOfName hsc c hN hV hz hn, bind_some']
      by_cases d : ixN T L nm cnt q < cnt
      · have e : bnd (.inr q) (rKnw T L nm cnt) = .inr ((ixN T L nm cnt q : Int), ntF T L q) := by
          show rKnw T L nm cnt q = _
          unfold rKnw
          rw [if_pos c, if_pos d]
        rw [if_pos d, zI_of (by omega) (by omega), if_neg (by omega), e]
        try dsimp only
        rw [xj_eq, c_failG h, if_pos rfl]
        refine OK_bind (c_nextS h hn) (fun υ g => ?_)
        exact OK_some ⟨⟨g.1, fun q e => by cases e; rfl⟩, g.2⟩
      · have e : bnd (.inr q) (rKnw T L nm cnt) = .inl (4, q) := by
          show rKnw T L nm cnt q = _
          unfold rKnw
          rw [if_pos c, if_neg d]
        rw [if_neg d, zI_of (by omega) (by omega), if_pos rfl, e]
        refine OK_bind (c_fail (c := 4) h (by omega)) (fun υ g => ?_)
        exact bad (-1) υ (4, q) g.1 g.2
    · have e : bnd (.inr q) (rKnw T L nm cnt) = .inl (1, q) := by
        show rKnw T L nm cnt q = _
        unfold rKnw
        rw [if_neg c]
      rw [if_neg c, zI_of (n := 0) (by omega) (by omega), if_pos rfl, e]
      refine OK_bind (c_fail (c := 1) h (by omega)) (fun υ g => ?_)
      exact bad (-1) υ (1, q) g.1 g.2
/-- a place, not the other one (7: home) -/
def rPl (T : Nat → Int) (L : Nat) (nm : Nat → Nat × Nat) (cnt : Nat) (o : Int) (p : Nat) : RS1 := if kwF T L p = 23 then (if 7 = o then .inl (3, p) else .inr (7, ntF T L p)) else if nmB T L p = true then (if ixN T L nm cnt p < cnt then (if (ixN T L nm cnt p : Int) = o then .inl (3, p) else .inr ((ixN T L nm cnt p : Int), ntF T L p)) else .inl (4, p)) else .inl (1, p)
theorem c_readPlace {b : Nat} {o : Int} (h : CS σ T L s) (hN : CN σ 5 T nm cnt) (hV : NV T nm cnt) (hz : cnt ≤ 7) (hcnt : σ b 8 = (cnt : Int)) (hb : b ≠ 2 ∧ b ≠ 3) (ho : -1 ≤ o ∧ o ≤ 100) (hn : 4000000 ≤ n) : OK (m_X7_readPlace n b o σ) (fun x => CR x.2 T L (bnd s (rPl T L nm cnt o)) x.1 ∧ pfC σ x.2 ∧ (-1 ≤ x.1 ∧ x.1 ≤ 7)) := by
  obtain ⟨p, hsc⟩ := CS_sc h
  have hkb := kw_bd (T := T) (L := L) (p := p)
  unfold m_X7_readPlace
  rw [xlet_eq, c_keyword hsc hn, bind_some', xwd_of (by omega) (by omega), xj_eq]
  have bad : ∀ (v : Int) (υ : xS) (g : Int × Nat), (-1 ≤ v ∧ v ≤ 7) → CX υ T L g → pfC σ υ → OK ((fun (q7 : Int × xS) => xj (fun (q11 : xS) => xj (fun (q15 : xS) => some (q7.1, q15)) fun J13 => if (m_X7_failed q11) = 0 then (m_X10_next n q11).bind fun s17 => J13 s17 else J13 q11) fun J9 => if (zI q7.1) = (zI o) then (m_X7_fail 3 q7.2).bind fun s19 => J9 s19 else J9 q7.2) (v, υ)) (fun x => CR x.2 T L (.inl g) x.1 ∧ pfC σ x.2 ∧ (-1 ≤ x.1 ∧ x.1 ≤ 7)) := fun v υ g hv hu hp => by
    try dsimp only
    rw [xj_eq]
    have hb2 : ∀ υ' : xS, CX υ' T L g → pfC σ υ' → OK (xj (fun (q15 : xS) => some (v, q15)) fun J13 => if (m_X7_failed υ') = 0 then (m_X10_next n υ').bind fun s17 => J13 s17 else J13 υ') (fun x => CR x.2 T L (.inl g) x.1 ∧ pfC σ x.2 ∧ (-1 ≤ x.1 ∧ x.1 ≤ 7)) := fun υ' hu' hp' => by
      rw [xj_eq, c_failX hu', if_neg (by omega)]
      exact OK_some ⟨⟨hu', fun q e => by cases e⟩, hp', hv⟩
    split
    · refine OK_bind (c_fail (s := .inl g) (c := 3) hu (by omega)) (fun υ' k => ?_)
      exact hb2 υ' k.1 (pfC_trans hp k.2)
    · exact hb2 υ hu hp
  cases s with
  | inl f =>
    by_cases c23 : kwF T L p = 23
    · rw [if_pos c23]
      exact bad 7 σ f (by omega) h pfC_refl
    · rw [if_neg c23, c_isName hsc hn, bind_some']
      by_cases c : nmB T L p = true
      · have hix : ixN T L nm cnt p ≤ 7 := by
          have h2 := (fsF_spec (fun i => decide (dgF 32 T (nm i).1 (nm i).2 = dgF 32 T p (enF T L p - p))) cnt 0).2.1
          have e : ixN T L nm cnt p = fsF (fun i => decide (dgF 32 T (nm i).1 (nm i).2 = dgF 32 T p (enF T L p - p))) cnt 0 := rfl
          omega
        rw [if_pos c, zI_of (n := 1) (by omega) (by omega), if_neg (by omega), hcnt, c_indexOfName hsc c hN hV ⟨hz, by omega⟩ hn, bind_some']
        have hvb : -1 ≤ (if ixN T L nm cnt p < cnt then (ixN T L nm cnt p : Int) else -1) ∧ (if ixN T L nm cnt p < cnt then (ixN T L nm cnt p : Int) else -1) ≤ 7 := by split <;> omega
        generalize (if ixN T L nm cnt p < cnt then (ixN T L nm cnt p : Int) else -1) = w at hvb ⊢
        split
        · refine OK_bind (c_fail (c := 4) h (by omega)) (fun υ g => ?_)
          exact bad _ υ f hvb g.1 g.2
        · exact bad _ σ f hvb h pfC_refl
      · rw [if_neg c, zI_of (n := 0) (by omega) (by omega), if_pos rfl]
        refine OK_bind (c_fail (c := 1) h (by omega)) (fun υ g => ?_)
        exact bad (-1) υ f (by omega) g.1 g.2
  | inr q =>
    have hq := SC_at hsc h.1
    subst hq
    -- a place that there is
    have good : ∀ v : Int, (0 ≤ v ∧ v ≤ 7) → OK ((fun (q7 : Int × xS) => xj (fun (q11 : xS) => xj (fun (q15 : xS) => some (q7.1, q15)) fun J13 => if (m_X7_failed q11) = 0 then (m_X10_next n q11).bind fun s17 => J13 s17 else J13 q11) fun J9 => if (zI q7.1) = (zI o) then (m_X7_fail 3 q7.2).bind fun s19 => J9 s19 else J9 q7.2) (v, σ)) (fun x => CR x.2 T L (if v = o then .inl (3, q) else .inr (v, ntF T L q)) x.1 ∧ pfC σ x.2 ∧ (-1 ≤ x.1 ∧ x.1 ≤ 7)) := fun v hv => by
      try dsimp only
      rw [xj_eq, zI_of (n := v) (by omega) (by omega), zI_of (n := o) (by omega) (by omega)]
      by_cases d : v = o
      · rw [if_pos d, if_pos d]
        refine OK_bind (c_fail (c := 3) h (by omega)) (fun υ g => ?_)
        have gx : CX υ T L (3, q) := g.1
        dsimp only
        rw [xj_eq, c_failX gx, if_neg (by omega)]
        exact OK_some ⟨⟨gx, fun q e => by cases e⟩, g.2, by (try dsimp only); omega⟩
      · rw [if_neg d, if_neg d]
        dsimp only
        rw [xj_eq, c_failG h, if_pos rfl]
        refine OK_bind (c_nextS h hn) (fun υ g => ?_)
        exact OK_some ⟨⟨g.1, fun q e => by cases e; rfl⟩, g.2, by (try dsimp only); omega⟩
    by_cases c23 : kwF T L q = 23
    · have e : bnd (.inr q) (rPl T L nm cnt o) = if (7 : Int) = o then .inl (3, q) else .inr (7, ntF T L q) := by
        show rPl T L nm cnt o q = _
        unfold rPl
        rw [if_pos c23]
      rw [if_pos c23, e]
      exact good 7 (by omega)
    · rw [if_neg c23, c_isName hsc hn, bind_some']
      by_cases c : nmB T L q = true
      · have hix : ixN T L nm cnt q ≤ 7 := by
          have h2 := (fsF_spec (fun i => decide (dgF 32 T (nm i).1 (nm i).2 = dgF 32 T q (enF T L q - q))) cnt 0).2.1
          have e : ixN T L nm cnt q = fsF (fun i => decide (dgF 32 T (nm i).1 (nm i).2 = dgF 32 T q (enF T L q - q))) cnt 0 := rfl
          omega
        rw [if_pos c, zI_of (n := 1) (by omega) (by omega), if_neg (by omega), hcnt, c_indexOfName hsc c hN hV ⟨hz, by omega⟩ hn, bind_some']
        by_cases d : ixN T L nm cnt q < cnt
        · have e : bnd (.inr q) (rPl T L nm cnt o) = if (ixN T L nm cnt q : Int) = o then .inl (3, q) else .inr ((ixN T L nm cnt q : Int), ntF T L q) := by
            show rPl T L nm cnt o q = _
            unfold rPl
            rw [if_neg c23, if_pos c, if_pos d]
          rw [if_pos d, zI_of (n := (ixN T L nm cnt q : Int)) (by omega) (by omega), if_neg (by omega), e]
          exact good _ (by omega)
        · have e : bnd (.inr q) (rPl T L nm cnt o) = .inl (4, q) := by
            show rPl T L nm cnt o q = _
            unfold rPl
            rw [if_neg c23, if_pos c, if_neg d]
          rw [if_neg d, zI_of (n := -1) (by omega) (by omega), if_pos rfl, e]
          refine OK_bind (c_fail (c := 4) h (by omega)) (fun υ g => ?_)
          exact bad (-1) υ (4, q) (by omega) g.1 g.2
      · have e : bnd (.inr q) (rPl T L nm cnt o) = .inl (1, q) := by
          show rPl T L nm cnt o q = _
          unfold rPl
          rw [if_neg c23, if_neg c]
        rw [if_neg c, zI_of (n := 0) (by omega) (by omega), if_pos rfl, e]
        refine OK_bind (c_fail (c := 1) h (by omega)) (fun υ g => ?_)
        exact bad (-1) υ (1, q) (by omega) g.1 g.2
theorem c_readNewName (h : CS σ T L s) (hN : CN σ k1 T nm cnt) (hV : NV T nm cnt) (hz : cnt ≤ z1 ∧ z1 ≤ 7) (hg : ∀ q, s = .inr q → cnt < z1) (hk : k1 = 4 ∨ k1 = 5) (hn : 4000000 ≤ n) : OK (m_X7_readNewName n k1 z1 cnt σ) (fun τ => CS τ T L (nxS (bnd s (rNew T L nm cnt))) ∧ (∀ q, s = .inr q → nmB T L q = true → ¬ ixN T L nm cnt q < cnt → τ k1 cnt = dgF 32 T q (enF T L q - q)) ∧ ∀ k j, ¬ (k = 2 ∧ (j = 7 ∨ j = 8)) → ¬ (k = 3 ∧ (j = 2 ∨ j = 3 ∨ j = 4)) → ¬ (k = k1 ∧ j = cnt) → τ k j = σ k j) := by
  obtain ⟨p, hsc⟩ := CS_sc h
  unfold m_X7_readNewName
  rw [c_isName hsc hn, bind_some', xj_eq]
  have bad : ∀ (υ : xS) (g : Int × Nat), CX υ T L g → pfC σ υ → OK ((fun (q5 : xS) => xj (fun (q9 : xS) => some q9) fun J7 => if (m_X7_failed q5) = 0 then (m_X10_letters n q5).bind fun v11 => xck (zI (cnt : Int)) z1 <| xlet (xput q5 k1 (zI (cnt : Int)).toNat v11) fun s12 => (m_X10_next n s12).bind fun s13 => J7 s13 else J7 q5) υ) (fun τ => CS τ T L (.inl g) ∧ pfC σ τ) := fun υ g hu hp => by
    try dsimp only
    rw [xj_eq, c_failX hu, if_neg (by omega)]
    exact OK_some ⟨hu, hp⟩
  cases s with
  | inl f =>
    have hfin : ∀ {o : Option xS}, OK o (fun τ => CS τ T L (.inl f) ∧ pfC σ τ) → OK o (fun τ => CS τ T L (nxS (bnd (.inl f) (rNew T L nm cnt))) ∧ (∀ q, (Sum.inl f : RS0) = .inr q → nmB T L q = true → ¬ ixN T L nm cnt q < cnt → τ k1 cnt = dgF 32 T q (enF T L q - q)) ∧ ∀ k j, ¬ (k = 2 ∧ (j = 7 ∨ j = 8)) → ¬ (k = 3 ∧ (j = 2 ∨ j = 3 ∨ j = 4)) → ¬ (k = k1 ∧ j = cnt) → τ k j = σ k j) := fun ho => OK_mono ho fun τ g => ⟨g.1, (fun q e => by cases e), fun k j c1 c2 _ => g.2 k j c1 c2⟩
    refine hfin ?_
    by_cases c : nmB T L p = true
    · rw [if_pos c, zI_of (n := 1) (by omega) (by omega), if_neg (by omega)]
      refine OK_bind (c_indexAny hsc hz hn) (fun v _ => ?_)
      split
      · exact bad σ f h pfC_refl
      · refine OK_bind (c_fail (c := 3) h (by omega)) (fun υ g => ?_)
        exact bad υ f g.1 g.2
    · rw [if_neg c, zI_of (n := 0) (by omega) (by omega), if_pos rfl]
      refine OK_bind (c_fail (c := 1) h (by omega)) (fun υ g => ?_)
      exact bad υ f g.1 g.2
  | inr q =>
    have hq := SC_at hsc h.1
    subst hq
    have hcz := hg q rfl
    have hbad : ∀ {o : Option xS} (g : Int × Nat), bnd (.inr q) (rNew T L nm cnt) = .inl g → ¬ (nmB T L q = true ∧ ¬ ixN T L nm cnt q < cnt) → OK o (fun τ => CS τ T L (.inl g) ∧ pfC σ τ) → OK o (fun τ => CS τ T L (nxS (bnd (.inr q) (rNew T L nm cnt))) ∧ (∀ q', (Sum.inr q : RS0) = .inr q' → nmB T L q' = true → ¬ ixN T L nm cnt q' < cnt → τ k1 cnt = dgF 32 T q' (enF T L q' - q')) ∧ ∀ k j, ¬ (k = 2 ∧ (j = 7 ∨ j = 8)) → ¬ (k = 3 ∧ (j = 2 ∨ j = 3 ∨ j = 4)) → ¬ (k = k1 ∧ j = cnt) → τ k j = σ k j) := fun g e hno ho => OK_mono ho fun τ w => ⟨by rw [e]; exact w.1, fun q' e' a b => by cases e'; exact absurd ⟨a, b⟩ hno, fun k j c1 c2 _ => w.2 k j c1 c2⟩
    by_cases c : nmB T L q = true
    · have hix : ixN T L nm cnt q ≤ 7 := by
        have h2 := (fsF_spec (fun i => decide (dgF 32 T (nm i).1 (nm i).2 = dgF 32 T q (enF T L q - q))) cnt 0).2.1
        have e : ixN T L nm cnt q = fsF (fun i => decide (dgF 32 T (nm i).1 (nm i).2 = dgF 32 T q (enF T L q - q))) cnt 0 := rfl
        omega
      rw [if_pos c, zI_of (n := 1) (by omega) (by omega), if_neg (by omega), c_indexOfName hsc c hN hV hz hn, bind_some']
      by_cases d : ixN T L nm cnt q < cnt
      · have e : bnd (.inr q) (rNew T L nm cnt) = .inl (3, q) := by
          show rNew T L nm cnt q = _
          unfold rNew
          rw [if_pos c, if_pos d]
        rw [if_pos d, zI_of (by omega) (by omega), if_neg (by omega)]
        refine hbad (3, q) e (fun z => z.2 d) ?_
        refine OK_bind (c_fail (c := 3) h (by omega)) (fun υ g => ?_)
        exact bad υ (3, q) g.1 g.2
      · have e : bnd (.inr q) (rNew T L nm cnt) = .inr (0, ntF T L q) := by
          show rNew T L nm cnt q = _
          unfold rNew
          rw [if_pos c, if_neg d]
        rw [if_neg d, zI_of (n := -1) (by omega) (by omega), if_pos rfl, e]
        try dsimp only
        rw [xj_eq, c_failG h, if_pos rfl, c_letters hsc hn, bind_some', zI_of (n := (cnt : Int)) (by omega) (by omega), xck_of (by omega) (by omega), xlet_eq, tn_cast]
        have hG' : CG (xput σ k1 cnt (dgF 32 T q (enF T L q - q))) T L q := CS_same (s := .inr q) h (fun k j hkj => xput_ne (by omega))
        refine OK_bind (c_nextS hG' hn) (fun υ g => ?_)
        refine OK_some ⟨g.1, fun q' e' _ _ => ?_, fun k j c1 c2 c3 => ?_⟩
        · cases e'
          rw [g.2 _ _ (by omega) (by omega), xput_eq]
        · rw [g.2 _ _ c1 c2, xput_ne c3]
    · have e : bnd (.inr q) (rNew T L nm cnt) = .inl (1, q) := by
        show rNew T L nm cnt q = _
        unfold rNew
        rw [if_neg c]
      rw [if_neg c, zI_of (n := 0) (by omega) (by omega), if_pos rfl]
      refine hbad (1, q) e (fun z => c z.1) ?_
      refine OK_bind (c_fail (c := 1) h (by omega)) (fun υ g => ?_)
      exact bad υ (1, q) g.1 g.2
/-- a setting, given already or not -/
def rSet (T : Nat → Int) (L : Nat) (gv : Int) (lo hi : Int) (p : Nat) : RS1 := if gv = 0 then rNum T L lo hi (ntF T L p) else .inl (3, p)
theorem c_readSetting {gv lo hi : Int} (h : CG σ T L p) (hgv : gv = 0 ∨ gv = 1) (hlo : 0 ≤ lo ∧ lo ≤ hi ∧ hi ≤ 10000) (hn : 4000000 ≤ n) : OK (m_X7_readSetting n gv lo hi σ) (fun x => CR x.2 T L (rSet T L gv lo hi p) x.1 ∧ pfC σ x.2) := by
  unfold m_X7_readSetting rSet
  rw [zI_of (by omega) (by omega)]
  by_cases c : gv = 0
  · rw [if_pos c, if_pos c]
    refine OK_bind (c_nextS h hn) (fun υ g => ?_)
    refine OK_xbS (c_readNumber (s := .inr (ntF T L p)) g.1 hlo hn) (fun v y k => ?_)
    exact OK_some ⟨k.1, pfC_trans g.2 k.2⟩
  · rw [if_neg c, if_neg c]
    refine OK_bind (c_fail (s := .inr p) (c := 3) h (by omega)) (fun υ g => ?_)
    exact OK_some ⟨⟨g.1, fun q e => by cases e⟩, g.2⟩
end TX4
