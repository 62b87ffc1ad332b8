/-! tokens of a text that is told by what is left of it -/
section TOKS
variable {T : Nat → Int} {L p q cnt : Nat} {u w z : List Int} {k x lo hi o : Int} {nm : Nat → Nat × Nat}
/-- at the place p stands u, to the text's end -/
def Atx (T : Nat → Int) (L : Nat) (u : List Int) (p : Nat) : Prop := p + u.length = L ∧ ∀ j, j < u.length → T (p + j) = u.getD j 0
def KI (k : Int) (w : List Int) : Prop := ∀ j, j < w.length → kF (w.getD j 0) = k
/-- u doesn't begin with the kind k -/
def HN (u : List Int) (k : Int) : Prop := 0 < u.length → kF (u.getD 0 0) ≠ k
/-- what stands behind a token: one space, or a semicolon; u is what is left then -/
def ZN (z u : List Int) : Prop := (z = 32 :: u ∧ HN u 4) ∨ (z = u ∧ ∃ u', z = 59 :: u')
theorem kF32 : kF 32 = 4 := by decide
theorem kF59 : kF 59 = 3 := by decide
theorem gd_l {j : Nat} (h : j < w.length) : (w ++ u).getD j 0 = w.getD j 0 := by
  rw [List.getD_eq_getElem?_getD, List.getD_eq_getElem?_getD, List.getElem?_append_left h]
theorem gd_r {j : Nat} : (w ++ u).getD (w.length + j) 0 = u.getD j 0 := by
  rw [List.getD_eq_getElem?_getD, List.getD_eq_getElem?_getD, List.getElem?_append_right (by omega), show w.length + j - w.length = j by omega]
theorem at_app (h : Atx T L (w ++ u) p) : (∀ j, j < w.length → T (p + j) = w.getD j 0) ∧ Atx T L u (p + w.length) ∧ (0 < u.length → T (p + w.length) = u.getD 0 0) := by
  obtain ⟨h1, h2⟩ := h
  rw [List.length_append] at h1 h2
  have a2 : ∀ j, j < u.length → T (p + w.length + j) = u.getD j 0 := fun j hj => by
    rw [show p + w.length + j = p + (w.length + j) by omega, h2 _ (by omega), gd_r]
  refine ⟨fun j hj => ?_, ⟨by omega, a2⟩, fun hu => a2 0 hu⟩
  rw [h2 j (by omega), gd_l hj]
theorem ZN_HN (h : ZN z u) : HN z 1 ∧ HN z 2 := by
  rcases h with ⟨rfl, -⟩ | ⟨-, u', rfl⟩
  · exact ⟨fun _ => by show kF 32 ≠ 1; decide, fun _ => by show kF 32 ≠ 2; decide⟩
  · exact ⟨fun _ => by show kF 59 ≠ 1; decide, fun _ => by show kF 59 ≠ 2; decide⟩
theorem sk_0 (h : Atx T L u p) (hu : HN u 4) : skF T L p = p := by
  have hp : p ≤ L := by have := h.1; omega
  obtain ⟨h1, h2, h3, h4⟩ := skF_spec (T := T) hp
  rcases Nat.lt_or_ge p (skF T L p) with c | c
  · have a := h3 p (Nat.le_refl _) c
    have hl : 0 < u.length := by have := h.1; omega
    have b := h.2 0 hl
    rw [Nat.add_zero] at b
    rw [b] at a
    exact absurd a (hu hl)
  · omega
theorem sk_1 (h : Atx T L (32 :: u) p) (hu : HN u 4) : skF T L p = p + 1 := by
  have hlen : (32 :: u).length = u.length + 1 := rfl
  have h' := h
  obtain ⟨h0, h9⟩ := h
  rw [hlen] at h0
  have hp : p ≤ L := by omega
  obtain ⟨h1, h2, h3, h4⟩ := skF_spec (T := T) hp
  have t0 : T p = 32 := by
    have := h9 0 (by omega)
    rw [Nat.add_zero] at this
    exact this
  have hne : skF T L p ≠ p := fun c => by
    have := h4 (by omega)
    rw [c, t0] at this
    exact this kF32
  rcases Nat.lt_or_ge (p + 1) (skF T L p) with c | c
  · have a := h3 (p + 1) (by omega) c
    have hl : 0 < u.length := by omega
    have b := h9 1 (by omega)
    rw [b] at a
    exact absurd a (hu hl)
  · omega
theorem en_run (h : Atx T L (w ++ z) p) (hw : 0 < w.length) (hk : KI k w) (hk2 : k = 1 ∨ k = 2) (hz : HN z k) : p < L ∧ kdF T L p = k ∧ enF T L p = p + w.length ∧ Atx T L z (p + w.length) ∧ ∀ j, j < w.length → T (p + j) = w.getD j 0 := by
  obtain ⟨a1, a2, a3⟩ := at_app h
  have hL := h.1
  rw [List.length_append] at hL
  have hpL : p < L := by omega
  have t0 : kF (T p) = k := by
    have := a1 0 hw
    rw [Nat.add_zero] at this
    rw [this]
    exact hk 0 hw
  refine ⟨hpL, by unfold kdF; rw [if_pos hpL, t0], ?_, a2, a1⟩
  unfold enF
  rw [if_pos hpL, if_pos (by omega), t0]
  obtain ⟨h1, h2, h3, h4⟩ := rnF_spec (T := T) (L := L) (k := k) (p := p + 1) (by omega)
  rcases Nat.lt_trichotomy (rnF T L k (p + 1)) (p + w.length) with c | c | c
  · exfalso
    obtain ⟨j, hj⟩ : ∃ j, rnF T L k (p + 1) = p + j := ⟨rnF T L k (p + 1) - p, by omega⟩
    have b := h4 (by omega)
    rw [hj, a1 j (by omega)] at b
    exact b (hk j (by omega))
  · exact c
  · exfalso
    have b := h3 (p + w.length) (by omega) c
    have hl : 0 < z.length := by omega
    rw [a3 hl] at b
    exact hz hl b
theorem tok (h : Atx T L (w ++ z) p) (hw : 0 < w.length) (hk : KI k w) (hk2 : k = 1 ∨ k = 2) (hz : ZN z u) : p < L ∧ kdF T L p = k ∧ enF T L p = p + w.length ∧ Atx T L u (ntF T L p) ∧ ∀ j, j < w.length → T (p + j) = w.getD j 0 := by
  have hn := ZN_HN hz
  obtain ⟨h1, h2, h3, h4, h5⟩ := en_run h hw hk hk2 (by rcases hk2 with rfl | rfl; exact hn.1; exact hn.2)
  refine ⟨h1, h2, h3, ?_, h5⟩
  unfold ntF
  rw [h3]
  rcases hz with ⟨rfl, hu⟩ | ⟨rfl, u', rfl⟩
  · rw [sk_1 h4 hu]
    exact (at_app (w := [32]) h4).2.1
  · rw [sk_0 h4 (fun _ => by show kF 59 ≠ 4; decide)]
    exact h4
theorem semi_at (h : Atx T L (59 :: u) p) (hu : HN u 4) : ∃ q, rSem T L p = .inr (0, q) ∧ Atx T L u q := by
  have hL := h.1
  have hlen : (59 :: u).length = u.length + 1 := rfl
  rw [hlen] at hL
  have hpL : p < L := by omega
  have t0 : T p = 59 := by
    have := h.2 0 (by omega)
    rw [Nat.add_zero] at this
    exact this
  have hk : kdF T L p = 3 := by
    unfold kdF
    rw [if_pos hpL, t0]
    exact kF59
  have he : enF T L p = p + 1 := by
    unfold enF
    rw [if_pos hpL, t0, kF59, if_neg (by omega)]
  have h2 : Atx T L u (p + 1) := (at_app (w := [59]) h).2.1
  refine ⟨ntF T L p, by unfold rSem; rw [if_pos hk], ?_⟩
  unfold ntF
  rw [he, sk_0 h2 hu]
  exact h2
/-- a keyword's letters -/
def kb (i : Nat) : List Int := (List.range (wl i)).map (wc i)
theorem kb_len (i : Nat) : (kb i).length = wl i := by
  unfold kb
  rw [List.length_map, List.length_range]
theorem kb_at {i j : Nat} (h : j < wl i) : (kb i).getD j 0 = wc i j := by
  unfold kb
  rw [List.getD_eq_getElem?_getD, List.getElem?_map, List.getElem?_range h]
  rfl
theorem kb_K {i : Nat} (hi : i < 24) : KI 1 (kb i) ∧ 0 < (kb i).length := by
  have h1 := (wl_tab ⟨i, hi⟩).1
  dsimp only at h1
  refine ⟨fun j hj => ?_, by rw [kb_len]; omega⟩
  rw [kb_len] at hj
  have h2 := (wc_tab ⟨i, hi⟩ ⟨j, by omega⟩ hj).1
  dsimp only at h2
  rw [kb_at hj]
  exact kF_1.mpr h2
theorem kw_at {i : Nat} (hi : i < 24) (h : Atx T L (kb i ++ z) p) (hz : ZN z u) : kwF T L p = (i : Int) ∧ Atx T L u (ntF T L p) := by
  obtain ⟨h1, h2, h3, h4, h5⟩ := tok h (kb_K hi).2 (kb_K hi).1 (Or.inl rfl) hz
  rw [kb_len] at h3 h5
  exact ⟨(kw_iff hi).mpr (iwB_iff.mpr ⟨h2, h3, fun j hj => by rw [h5 j hj, kb_at hj]⟩), h4⟩
theorem wl_2 : ∀ i : Fin 24, 2 ≤ wl i.val := by decide +kernel
/-- a name of one letter -/
theorem nm_at (h : Atx T L (x :: z) p) (hx : 97 ≤ x ∧ x ≤ 122) (hz : ZN z u) : nmB T L p = true ∧ enF T L p = p + 1 ∧ Atx T L u (ntF T L p) ∧ T p = x ∧ kwF T L p = -1 := by
  have hk : KI 1 [x] := fun j hj => by
    have hj' : j < 1 := hj
    have : j = 0 := by omega
    subst this
    exact kF_1.mpr hx
  obtain ⟨h1, h2, h3, h4, h5⟩ := tok (w := [x]) h (by show 0 < 1; omega) hk (Or.inl rfl) hz
  have h3' : enF T L p = p + 1 := h3
  have hkw : kwF T L p = -1 := by
    have hb := kw_bd (T := T) (L := L) (p := p)
    by_cases c : kwF T L p = -1
    · exact c
    · obtain ⟨i, hi⟩ : ∃ i : Nat, kwF T L p = (i : Int) := ⟨(kwF T L p).toNat, by omega⟩
      have hi2 : i < 24 := by omega
      have e := iwB_iff.mp ((kw_iff hi2).mp hi)
      have w2 := wl_2 ⟨i, hi2⟩
      dsimp only at w2
      omega
  have t0 := h5 0 (by show 0 < 1; omega)
  rw [Nat.add_zero] at t0
  exact ⟨nmB_iff.mpr ⟨h2, by omega, hkw⟩, h3', h4, t0, hkw⟩
theorem dg_1 (hT : T p = x) : dgF 32 T p 1 = x - 96 := by
  show dgF 32 T p 0 * 32 + (T (p + 0) - 96) = _
  rw [Nat.add_zero, hT]
  show 0 * 32 + (x - 96) = _
  omega
theorem ix_new (hc : ∀ i, i < cnt → dgF 32 T (nm i).1 (nm i).2 ≠ dgF 32 T p (enF T L p - p)) : ixN T L nm cnt p = cnt := by
  obtain ⟨h1, h2, h3, h4⟩ := fsF_spec (fun i => decide (dgF 32 T (nm i).1 (nm i).2 = dgF 32 T p (enF T L p - p))) cnt 0
  unfold ixN
  rcases Nat.lt_or_ge (fsF (fun i => decide (dgF 32 T (nm i).1 (nm i).2 = dgF 32 T p (enF T L p - p))) cnt 0) cnt with c | c
  · have := h3 (by omega)
    rw [decide_eq_true_eq] at this
    exact absurd this (hc _ c)
  · omega
theorem ix_at {i : Nat} (hi : i < cnt) (he : dgF 32 T (nm i).1 (nm i).2 = dgF 32 T p (enF T L p - p)) (hc : ∀ j, j < i → dgF 32 T (nm j).1 (nm j).2 ≠ dgF 32 T p (enF T L p - p)) : ixN T L nm cnt p = i := by
  obtain ⟨h1, h2, h3, h4⟩ := fsF_spec (fun i => decide (dgF 32 T (nm i).1 (nm i).2 = dgF 32 T p (enF T L p - p))) cnt 0
  unfold ixN
  generalize fsF (fun i => decide (dgF 32 T (nm i).1 (nm i).2 = dgF 32 T p (enF T L p - p))) cnt 0 = r at h1 h2 h3 h4
  rcases Nat.lt_trichotomy r i with c | c | c
  · have := h3 (by omega)
    rw [decide_eq_true_eq] at this
    exact absurd this (hc _ c)
  · exact c
  · have := h4 i (by omega) c
    rw [decide_eq_false_iff_not] at this
    exact absurd he this
theorem rNew_at (h : Atx T L (x :: z) p) (hx : 97 ≤ x ∧ x ≤ 122) (hz : ZN z u) (hc : ∀ i, i < cnt → dgF 32 T (nm i).1 (nm i).2 ≠ x - 96) : rNew T L nm cnt p = .inr (0, ntF T L p) ∧ Atx T L u (ntF T L p) ∧ enF T L p - p = 1 ∧ dgF 32 T p 1 = x - 96 := by
  obtain ⟨h1, h2, h3, h4, -⟩ := nm_at h hx hz
  have hd := dg_1 h4
  have e1 : enF T L p - p = 1 := by omega
  refine ⟨?_, h3, e1, hd⟩
  unfold rNew
  rw [if_pos h1, if_neg]
  rw [ix_new (fun i hi => by rw [e1, hd]; exact hc i hi)]
  omega
theorem rKnw_at {i : Nat} (h : Atx T L (x :: z) p) (hx : 97 ≤ x ∧ x ≤ 122) (hz : ZN z u) (hi : i < cnt) (he : dgF 32 T (nm i).1 (nm i).2 = x - 96) (hc : ∀ j, j < i → dgF 32 T (nm j).1 (nm j).2 ≠ x - 96) : rKnw T L nm cnt p = .inr ((i : Int), ntF T L p) ∧ Atx T L u (ntF T L p) := by
  obtain ⟨h1, h2, h3, h4, -⟩ := nm_at h hx hz
  have hd := dg_1 h4
  have e1 : enF T L p - p = 1 := by omega
  have ei : ixN T L nm cnt p = i := ix_at hi (by rw [e1, hd]; exact he) (fun j hj => by rw [e1, hd]; exact hc j hj)
  refine ⟨?_, h3⟩
  unfold rKnw
  rw [if_pos h1, ei, if_pos hi]
theorem rPl_home (h : Atx T L (kb 23 ++ z) p) (hz : ZN z u) (ho : 7 ≠ o) : rPl T L nm cnt o p = .inr (7, ntF T L p) ∧ Atx T L u (ntF T L p) := by
  obtain ⟨h1, h2⟩ := kw_at (i := 23) (by omega) h hz
  refine ⟨?_, h2⟩
  unfold rPl
  rw [h1, if_pos (show ((23 : Nat) : Int) = 23 from rfl), if_neg ho]
theorem rPl_at {i : Nat} (h : Atx T L (x :: z) p) (hx : 97 ≤ x ∧ x ≤ 122) (hz : ZN z u) (hi : i < cnt) (he : dgF 32 T (nm i).1 (nm i).2 = x - 96) (hc : ∀ j, j < i → dgF 32 T (nm j).1 (nm j).2 ≠ x - 96) (ho : (i : Int) ≠ o) : rPl T L nm cnt o p = .inr ((i : Int), ntF T L p) ∧ Atx T L u (ntF T L p) := by
  obtain ⟨h1, h2, h3, h4, h5⟩ := nm_at h hx hz
  have hd := dg_1 h4
  have e1 : enF T L p - p = 1 := by omega
  have ei : ixN T L nm cnt p = i := ix_at hi (by rw [e1, hd]; exact he) (fun j hj => by rw [e1, hd]; exact hc j hj)
  refine ⟨?_, h3⟩
  unfold rPl
  rw [h5, if_neg (by omega), if_pos h1, ei, if_pos hi, if_neg ho]
/-- a number's digits -/
def di (v : Nat) : List Int := (dec v).map Int32.toInt
theorem dC_int : ∀ x, x < 10 → (dC x).toInt = 48 + (x : Int) := by decide
theorem di_spec {v : Nat} (hv : v < 10000) : (1 ≤ (di v).length ∧ (di v).length ≤ 4) ∧ KI 2 (di v) ∧ ∀ (T : Nat → Int) (p : Nat), (∀ j, j < (di v).length → T (p + j) = (di v).getD j 0) → nvF T p (di v).length = (v : Int) := by
  have hd := dC_int
  have hk : ∀ x : Nat, x < 10 → kF (48 + (x : Int)) = 2 := fun x hx => kF_2.mpr (by omega)
  by_cases c1 : v < 10
  · have e : di v = [48 + (v : Int)] := by
      unfold di
      rw [dec1 c1]
      simp only [List.map_cons, List.map_nil, hd v c1]
    rw [e]
    refine ⟨⟨by show 1 ≤ 1; omega, by show 1 ≤ 4; omega⟩, fun j hj => ?_, fun T p h => ?_⟩
    · have hj' : j < 1 := hj
      obtain rfl : j = 0 := by omega
      exact hk v c1
    · have h0 := h 0 (by show 0 < 1; omega)
      show nvF T p 0 * 10 + (T (p + 0) - 48) = _
      rw [h0]
      show 0 * 10 + (48 + (v : Int) - 48) = _
      omega
  · by_cases c2 : v < 100
    · have e : di v = [48 + ((v / 10 : Nat) : Int), 48 + ((v % 10 : Nat) : Int)] := by
        unfold di
        rw [dec2 c1 c2]
        simp only [List.map_cons, List.map_nil, hd (v / 10) (by omega), hd (v % 10) (by omega)]
      rw [e]
      refine ⟨⟨by show 1 ≤ 2; omega, by show 2 ≤ 4; omega⟩, fun j hj => ?_, fun T p h => ?_⟩
      · have hj' : j < 2 := hj
        rcases (show j = 0 ∨ j = 1 by omega) with rfl | rfl
        · exact hk _ (by omega)
        · exact hk _ (by omega)
      · have h0 := h 0 (by show 0 < 2; omega)
        have h1 := h 1 (by show 1 < 2; omega)
        show (nvF T p 0 * 10 + (T (p + 0) - 48)) * 10 + (T (p + 1) - 48) = _
        rw [h0, h1]
        show (0 * 10 + (48 + ((v / 10 : Nat) : Int) - 48)) * 10 + (48 + ((v % 10 : Nat) : Int) - 48) = _
        omega
    · by_cases c3 : v < 1000
      · have e : di v = [48 + ((v / 100 : Nat) : Int), 48 + ((v / 10 % 10 : Nat) : Int), 48 + ((v % 10 : Nat) : Int)] := by
          unfold di
          rw [dec3 c2 c3]
          simp only [List.map_cons, List.map_nil, hd (v / 100) (by omega), hd (v / 10 % 10) (by omega), hd (v % 10) (by omega)]
        rw [e]
        refine ⟨⟨by show 1 ≤ 3; omega, by show 3 ≤ 4; omega⟩, fun j hj => ?_, fun T p h => ?_⟩
        · have hj' : j < 3 := hj
          rcases (show j = 0 ∨ j = 1 ∨ j = 2 by omega) with rfl | rfl | rfl
          · exact hk _ (by omega)
          · exact hk _ (by omega)
          · exact hk _ (by omega)
        · have h0 := h 0 (by show 0 < 3; omega)
          have h1 := h 1 (by show 1 < 3; omega)
          have h2 := h 2 (by show 2 < 3; omega)
          show ((nvF T p 0 * 10 + (T (p + 0) - 48)) * 10 + (T (p + 1) - 48)) * 10 + (T (p + 2) - 48) = _
          rw [h0, h1, h2]
          show ((0 * 10 + (48 + ((v / 100 : Nat) : Int) - 48)) * 10 + (48 + ((v / 10 % 10 : Nat) : Int) - 48)) * 10 + (48 + ((v % 10 : Nat) : Int) - 48) = _
          omega
      · have e : di v = [48 + ((v / 1000 : Nat) : Int), 48 + ((v / 100 % 10 : Nat) : Int), 48 + ((v / 10 % 10 : Nat) : Int), 48 + ((v % 10 : Nat) : Int)] := by
          unfold di
          rw [dec4 c3]
          simp only [List.map_cons, List.map_nil, hd (v / 1000) (by omega), hd (v / 100 % 10) (by omega), hd (v / 10 % 10) (by omega), hd (v % 10) (by omega)]
        rw [e]
        refine ⟨⟨by show 1 ≤ 4; omega, by show 4 ≤ 4; omega⟩, fun j hj => ?_, fun T p h => ?_⟩
        · have hj' : j < 4 := hj
          rcases (show j = 0 ∨ j = 1 ∨ j = 2 ∨ j = 3 by omega) with rfl | rfl | rfl | rfl
          · exact hk _ (by omega)
          · exact hk _ (by omega)
          · exact hk _ (by omega)
          · exact hk _ (by omega)
        · have h0 := h 0 (by show 0 < 4; omega)
          have h1 := h 1 (by show 1 < 4; omega)
          have h2 := h 2 (by show 2 < 4; omega)
          have h3 := h 3 (by show 3 < 4; omega)
          show (((nvF T p 0 * 10 + (T (p + 0) - 48)) * 10 + (T (p + 1) - 48)) * 10 + (T (p + 2) - 48)) * 10 + (T (p + 3) - 48) = _
          rw [h0, h1, h2, h3]
          show (((0 * 10 + (48 + ((v / 1000 : Nat) : Int) - 48)) * 10 + (48 + ((v / 100 % 10 : Nat) : Int) - 48)) * 10 + (48 + ((v / 10 % 10 : Nat) : Int) - 48)) * 10 + (48 + ((v % 10 : Nat) : Int) - 48) = _
          omega
theorem rNum_at {v : Nat} (h : Atx T L (di v ++ z) p) (hv : v < 10000) (hb : lo ≤ (v : Int) ∧ (v : Int) ≤ hi) (hz : ZN z u) : rNum T L lo hi p = .inr ((v : Int), ntF T L p) ∧ Atx T L u (ntF T L p) := by
  obtain ⟨d1, d2, d3⟩ := di_spec hv
  obtain ⟨h1, h2, h3, h4, h5⟩ := tok h (by omega) d2 (Or.inr rfl) hz
  have e : enF T L p - p = (di v).length := by omega
  have hnb : nbB T L p = true := by
    unfold nbB
    rw [h2, h3]
    simp only [decide_true, Bool.true_and, decide_eq_true_eq]
    omega
  refine ⟨?_, h4⟩
  unfold rNum
  rw [if_pos hnb, e, d3 T p h5, if_pos hb]
theorem di_HN {v : Nat} (hv : v < 10000) : HN (di v ++ z) 4 := fun _ => by
  obtain ⟨d1, d2, -⟩ := di_spec hv
  rw [gd_l (by omega), d2 0 (by omega)]
  omega
theorem kb_HN {i : Nat} (hi : i < 24) : HN (kb i ++ z) 4 := fun _ => by
  obtain ⟨d1, d2⟩ := kb_K hi
  rw [gd_l d2, d1 0 d2]
  omega
theorem ch_HN (hx : 97 ≤ x ∧ x ≤ 122) : HN (x :: z) 4 := fun _ => by
  show kF x ≠ 4
  rw [kF_1.mpr hx]
  omega
theorem rFld_at {i v : Nat} (h : Atx T L (kb i ++ 32 :: (di v ++ z)) p) (hi2 : i < 24) (hv : v < 10000) (hb : lo ≤ (v : Int) ∧ (v : Int) ≤ hi) (hz : ZN z u) : ∃ q, rFld T L (i : Int) lo hi p = .inr ((v : Int), q) ∧ Atx T L u q := by
  obtain ⟨h1, h2⟩ := kw_at hi2 h (Or.inl ⟨rfl, di_HN hv⟩)
  obtain ⟨h3, h4⟩ := rNum_at h2 hv hb hz
  refine ⟨_, ?_, h4⟩
  unfold rFld
  rw [if_pos h1, h3]
end TOKS
