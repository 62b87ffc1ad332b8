/-! the reference: numbers -/
section TX14
variable {T : Nat → Int} {L p : Nat} {σ τ υ : xS} {n b : Nat} {s : RS0} {f : Int × Nat}
/-- the length of the digits here -/
def dlT (T : Nat → Int) (L p : Nat) : Nat := if kdF T L p = 2 then enF T L p - p else 0
theorem dlT_spec (hp : p ≤ L) : (∀ i, i < dlT T L p → p + i < L ∧ kF (T (p + i)) = 2) ∧ ¬ (p + dlT T L p < L ∧ kF (T (p + dlT T L p)) = 2) ∧ p + dlT T L p ≤ L := by
  unfold dlT
  by_cases h : kdF T L p = 2
  · rw [if_pos h]
    have hlt : p < L := by
      refine Nat.lt_of_not_le fun z => ?_
      unfold kdF at h
      rw [if_neg (by omega)] at h
      omega
    have hk : kF (T p) = 2 := by
      unfold kdF at h
      rw [if_pos hlt] at h
      exact h
    obtain ⟨e1, e2, e3⟩ := enF_spec (T := T) hp
    have he : enF T L p = rnF T L 2 (p + 1) := by
      unfold enF
      rw [if_pos hlt, hk, if_pos (by omega)]
    obtain ⟨r1, r2, r3, r4⟩ := rnF_spec (T := T) (k := 2) (show p + 1 ≤ L by omega)
    rw [← he] at r1 r2 r3 r4
    have hs : p + (enF T L p - p) = enF T L p := by omega
    rw [hs]
    refine ⟨fun i hi => ⟨by omega, ?_⟩, fun z => r4 z.1 z.2, e2⟩
    by_cases e : i = 0
    · rw [e]
      exact hk
    · exact r3 _ (by omega) (by omega)
  · rw [if_neg h]
    refine ⟨fun i hi => absurd hi (Nat.not_lt_zero _), fun z => h ?_, hp⟩
    unfold kdF
    rw [if_pos (show p < L from z.1)]
    exact z.2
theorem nb_dl (hp : p ≤ L) : nbB T L p = true ↔ 1 ≤ dlT T L p ∧ dlT T L p ≤ 4 := by
  have e := enF_spec (T := T) hp
  unfold nbB dlT
  rw [Bool.and_eq_true, decide_eq_true_eq, decide_eq_true_eq]
  by_cases h : kdF T L p = 2
  · rw [if_pos h]
    have hlt : p < L := by
      refine Nat.lt_of_not_le fun z => ?_
      unfold kdF at h
      rw [if_neg (by omega)] at h
      omega
    have := e.2.2 hlt
    omega
  · rw [if_neg h]
    omega
theorem nv_bd (hp : p ≤ L) {k : Nat} (hk : k ≤ dlT T L p) (h4 : k ≤ 4) : 0 ≤ nvF T p k ∧ nvF T p k ≤ 9999 := by
  obtain ⟨d1, -, -⟩ := dlT_spec (T := T) hp
  have g : ∀ i, i < k → 48 ≤ T (p + i) ∧ T (p + i) ≤ 57 := fun i hi => kF_2.mp (d1 i (by omega)).2
  have : k = 0 ∨ k = 1 ∨ k = 2 ∨ k = 3 ∨ k = 4 := by omega
  rcases this with rfl | rfl | rfl | rfl | rfl
  · exact ⟨by show (0 : Int) ≤ 0; omega, by show (0 : Int) ≤ 9999; omega⟩
  · have := g 0 (by omega)
    simp only [nvF]
    omega
  · have := g 0 (by omega)
    have := g 1 (by omega)
    simp only [nvF]
    omega
  · have := g 0 (by omega)
    have := g 1 (by omega)
    have := g 2 (by omega)
    simp only [nvF]
    omega
  · have := g 0 (by omega)
    have := g 1 (by omega)
    have := g 2 (by omega)
    have := g 3 (by omega)
    simp only [nvF]
    omega
theorem r_number {lo hi : Int} (h : rtS σ T L s) (hlo : 0 ≤ lo ∧ lo ≤ hi ∧ hi ≤ 10000) (hn : 4000000 ≤ n) : OK (m_X13_number n lo hi σ) (fun x => rtS x.2 T L (nxS (bnd s (rNum T L lo hi))) ∧ (∀ q, bnd s (rNum T L lo hi) = .inr q → x.1 = q.1) ∧ rtf σ x.2) := by
  unfold m_X13_number
  cases s with
  | inl f =>
    have hX : rtX σ T L f := h
    rw [r_fineX hX, if_pos rfl]
    exact OK_some ⟨hX, fun q z => (by cases z), rtf_refl⟩
  | inr p =>
    have hG : rtG σ T L p := h
    obtain ⟨h1, h2, h3, h4, h5⟩ := h
    have hT := h1.2.2.2
    have hL := h1.2.2.1
    obtain ⟨d1, d2, d3⟩ := dlT_spec (T := T) h3
    rw [r_fineG hG, if_neg (by omega), xlet_eq, h2]
    show OK _ (fun (x : Int × xS) => rtS x.2 T L (nxS (rNum T L lo hi p)) ∧ (∀ q, rNum T L lo hi p = .inr q → x.1 = q.1) ∧ rtf σ x.2)
    refine loop_for (dlT T L p) (fun i (t : Int × xS) => t.1 = nvF T p (min i 4) ∧ t.2 184 11 = ((p + i : Nat) : Int) ∧ rt1 σ t.2) ?_ ?_ (by omega) ⟨rfl, h2, fun _ _ _ => rfl⟩
    · rintro i t hil ⟨g1, g2, g3⟩ rec hrec
      have hB : rtB t.2 T L := rtB_same h1 (fun k j hk => g3 k j (by omega))
      have hd := d1 i hil
      have hby := (dg_iff (L := L) hT (i := p + i)).mpr hd
      have hTd := kF_2.mp hd.2
      have hbe : byT T L (p + i) = T (p + i) := by
        unfold byT
        rw [if_pos hd.1, if_neg (by omega)]
      have hge : ∀ v : Int, v = nvF T p (min (i + 1) 4) → OK ((fun (q32 : Int) => xlet (xput t.2 184 11 ((t.2 184 11) + 1)) fun s33 => rec (q32, s33)) v) (fun x => rtS x.2 T L (nxS (rNum T L lo hi p)) ∧ (∀ q, rNum T L lo hi p = .inr q → x.1 = q.1) ∧ rtf σ x.2) := fun v hv => by
        dsimp only
        rw [xlet_eq]
        refine hrec (v, xput t.2 184 11 ((t.2 184 11) + 1)) ⟨hv, ?_, fun k j hk => ?_⟩
        · show xput t.2 184 11 (t.2 184 11 + 1) 184 11 = _
          rw [xput_eq, g2]
          omega
        · show xput t.2 184 11 (t.2 184 11 + 1) k j = _
          rw [xput_ne hk]
          exact g3 k j hk
      rw [g2] at hge
      rw [r_here hB g2 (by omega), bind_some', zI_of (n := byT T L (p + i)) (by omega) (by omega), r_isIn (by omega) (by omega) (by omega) (by omega) (by omega) (by omega), if_pos hby, if_neg (by omega), xj_eq, g2, zI_of (n := ((p + i : Nat) : Int) - (p : Int)) (by omega) (by omega)]
      by_cases c : 4 ≤ i
      · rw [if_pos (by omega)]
        refine hge _ ?_
        rw [g1, show min i 4 = 4 from by omega, show min (i + 1) 4 = 4 from by omega]
      · rw [if_neg (by omega), bind_some', xlet_eq]
        refine hge _ ?_
        rw [g1, show min i 4 = i from by omega, show min (i + 1) 4 = i + 1 from by omega, nvF, hbe]
        omega
    · rintro t ⟨g1, g2, g3⟩ rec
      have hB : rtB t.2 T L := rtB_same h1 (fun k j hk => g3 k j (by omega))
      have hnd : ¬ (48 ≤ byT T L (p + dlT T L p) ∧ byT T L (p + dlT T L p) ≤ 57) := fun z => d2 ((dg_iff hT).mp z)
      have hb := byT_bd (L := L) hT (i := p + dlT T L p)
      have c0 : t.2 184 12 = 0 := by rw [g3 _ _ (by omega)]; exact h4
      have c1 : t.2 184 13 = -1 := by rw [g3 _ _ (by omega)]; exact h5
      have hGt : rtG t.2 T L (p + dlT T L p) := ⟨hB, g2, d3, c0, c1⟩
      have hv := nv_bd (T := T) h3 (k := min (dlT T L p) 4) (by omega) (by omega)
      rw [← g1] at hv
      rw [r_here hB g2 (by omega), bind_some', zI_of (n := byT T L (p + dlT T L p)) (by omega) (by omega), r_isIn (by omega) (by omega) (by omega) (by omega) (by omega) (by omega), if_neg hnd, if_pos rfl]
      -- behind the faults
      have fin : ∀ (q : xS) (r : RS0), rtf σ q → (∃ m : Nat, q 184 11 = (m : Int) ∧ m ≤ L ∧ (r = .inr (ntF T L p) → skF T L m = ntF T L p)) → (∃ f, r = .inl f ∧ rtX q T L f) ∨ (r = .inr (ntF T L p) ∧ rtG q T L (p + dlT T L p)) → OK ((m_X13_skips n q).bind fun s17 => xlet (if (m_X13_fine s17) = 0 then lo else t.1) fun v18 => some (v18, s17)) (fun x => rtS x.2 T L r ∧ ((∃ q, r = .inr q) → x.1 = t.1) ∧ rtf σ x.2) := fun q r hf hm hr => by
        obtain ⟨m, m1, m2, m3⟩ := hm
        have hBq : rtB q T L := rtB_f h1 hf
        refine OK_bind (r_skips hBq m1 m2 hn) (fun s17 hs => ?_)
        obtain ⟨k1, k2⟩ := hs
        have kB : rtB s17 T L := rtB_f hBq (rtf_1 k2)
        have kS := (skF_spec (T := T) m2).2.1
        rw [xlet_eq]
        rcases hr with ⟨f, hrf, hX⟩ | ⟨hrf, hGq⟩
        · have hX' : rtX s17 T L f := ⟨kB, ⟨_, k1, kS⟩, by rw [k2 _ _ (by omega)]; exact hX.2.2.1, by rw [k2 _ _ (by omega)]; exact hX.2.2.2.1, hX.2.2.2.2⟩
          rw [r_fineX hX', if_pos rfl, hrf]
          exact OK_some ⟨hX', fun z => (by obtain ⟨q, z⟩ := z; cases z), rtf_trans hf (rtf_1 k2)⟩
        · have hG' : rtG s17 T L (ntF T L p) := ⟨kB, by rw [k1, m3 hrf], by rw [← m3 hrf]; exact kS, by rw [k2 _ _ (by omega)]; exact hGq.2.2.2.1, by rw [k2 _ _ (by omega)]; exact hGq.2.2.2.2⟩
          rw [r_fineG hG', if_neg (by omega), hrf]
          exact OK_some ⟨hG', fun _ => rfl, rtf_trans hf (rtf_1 k2)⟩
      have hgood : 1 ≤ dlT T L p ∧ dlT T L p ≤ 4 → skF T L (p + dlT T L p) = ntF T L p ∧ t.1 = nvF T p (enF T L p - p) := fun z => by
        have hnb := (nb_dl (T := T) h3).mpr z
        have hkd : kdF T L p = 2 := by
          unfold nbB at hnb
          rw [Bool.and_eq_true, decide_eq_true_eq] at hnb
          exact hnb.1
        have e : dlT T L p = enF T L p - p := by
          unfold dlT
          rw [if_pos hkd]
        have e2 := (enF_spec (T := T) h3).1
        refine ⟨?_, ?_⟩
        · unfold ntF
          rw [e, show p + (enF T L p - p) = enF T L p from by omega]
        · rw [g1, ← e, show min (dlT T L p) 4 = dlT T L p from by omega]
      rw [xj_eq, xj_eq]
      have hplace : ∃ m : Nat, t.2 184 11 = (m : Int) ∧ m ≤ L := ⟨_, g2, d3⟩
      by_cases c : 1 ≤ dlT T L p ∧ dlT T L p ≤ 4
      · obtain ⟨k1, k2⟩ := hgood c
        have hnb := (nb_dl (T := T) h3).mpr c
        simp only [g2]
        rw [zI_of (n := ((p + dlT T L p : Nat) : Int)) (by omega) (by omega), zI_of (n := (p : Int)) (by omega) (by omega), if_neg (by omega), zI_of (n := ((p + dlT T L p : Nat) : Int) - (p : Int)) (by omega) (by omega), if_pos (by omega), xj_eq, zI_of (n := t.1) (by omega) (by omega), zI_of (n := lo) (by omega) (by omega), zI_of (n := hi) (by omega) (by omega), r_isIn (by omega) (by omega) (by omega) (by omega) (by omega) (by omega)]
        unfold rNum
        rw [if_pos hnb, ← k2]
        by_cases e : lo ≤ t.1 ∧ t.1 ≤ hi
        · rw [if_pos e, if_neg (by omega), if_pos e]
          refine OK_mono (fin t.2 (.inr (ntF T L p)) (rtf_1 g3) ⟨_, g2, d3, fun _ => k1⟩ (Or.inr ⟨rfl, hGt⟩)) (fun x hx => ⟨hx.1, fun q hq => ?_, hx.2.2⟩)
          cases hq
          exact hx.2.1 ⟨_, rfl⟩
        · rw [if_neg e, if_pos rfl, if_neg e]
          refine OK_bind (r_faultyG hB hplace c0 (c := 2) (q := p) (by omega)) (fun u hu => ?_)
          refine OK_mono (fin u (.inl (2, p)) (rtf_trans (rtf_1 g3) hu.2.1) ⟨_, by rw [hu.2.2]; exact g2, d3, fun z => by cases z⟩ (Or.inl ⟨_, rfl, hu.1⟩)) (fun x hx => ⟨hx.1, fun q hq => (by cases hq), hx.2.2⟩)
      · have hnb : ¬ nbB T L p = true := fun z => c ((nb_dl (T := T) h3).mp z)
        unfold rNum
        rw [if_neg hnb]
        have bad : OK ((m_X13_faulty 1 (p : Int) t.2).bind fun s26 => (fun (q12 : xS) => xj (fun (q16 : xS) => (m_X13_skips n q16).bind fun s17 => xlet (if (m_X13_fine s17) = 0 then lo else t.1) fun v18 => some (v18, s17)) fun J14 => if (m_X13_isIn (zI t.1) (zI lo) (zI hi)) = 0 then (m_X13_faulty 2 (p : Int) q12).bind fun s22 => J14 s22 else J14 q12) s26) (fun x => rtS x.2 T L (nxS (.inl (1, p))) ∧ (∀ q, (.inl (1, p) : RS1) = .inr q → x.1 = q.1) ∧ rtf σ x.2) := by
          refine OK_bind (r_faultyG hB hplace c0 (c := 1) (q := p) (by omega)) (fun u hu => ?_)
          have hfin := OK_mono (fin u (.inl (1, p)) (rtf_trans (rtf_1 g3) hu.2.1) ⟨_, by rw [hu.2.2]; exact g2, d3, fun z => by cases z⟩ (Or.inl ⟨_, rfl, hu.1⟩)) (Q := fun x => rtS x.2 T L (nxS (.inl (1, p))) ∧ (∀ q, (.inl (1, p) : RS1) = .inr q → x.1 = q.1) ∧ rtf σ x.2) (fun x hx => ⟨hx.1, fun q hq => (by cases hq), hx.2.2⟩)
          dsimp only
          rw [xj_eq]
          split
          · rw [r_faultyX hu.1, bind_some']
            exact hfin
          · exact hfin
        simp only [g2]
        rw [zI_of (n := ((p + dlT T L p : Nat) : Int)) (by omega) (by omega), zI_of (n := (p : Int)) (by omega) (by omega)]
        by_cases c2 : dlT T L p = 0
        · rw [if_pos (by omega)]
          exact bad
        · rw [if_neg (by omega), zI_of (n := ((p + dlT T L p : Nat) : Int) - (p : Int)) (by omega) (by omega), if_neg (by omega)]
          exact bad
end TX14
