/-! statements of a text that is told by what is left of it -/
section STMS
variable {T : Nat → Int} {L p q cnt d o s t v r : Nat} {u w z : List Int} {S S1 S' : PSt} {δ : Nat → Int}
/-- how many of each; no room, no cool; small orders -/
def ZC (δ : Nat → Int) (d o s t v r : Nat) : Prop := (δ 4 = (d : Int) ∧ δ 5 = (o : Int) ∧ δ 6 = (s : Int) ∧ δ 7 = (t : Int) ∧ δ 8 = (v : Int) ∧ δ 9 = (r : Int)) ∧ (δ 0 = 24 ∧ δ 1 = 30) ∧ ∀ i, i < r → oF δ i 2 ≤ 40 ∧ 200 ≤ oF δ i 3
def ZS (T : Nat → Int) (L : Nat) (u : List Int) (S : PSt) (d o s t v r : Nat) : Prop := Atx T L u S.1 ∧ PSV T L S ∧ ZC S.2.1 d o s t v r ∧ (∀ i, i < d → dgF 32 T (S.2.2.1 i).1 (S.2.2.1 i).2 = (i : Int) + 1) ∧ (∀ i, i < s → dgF 32 T (S.2.2.2.1 i).1 (S.2.2.2.1 i).2 = (i : Int) + 21)
theorem all_at {d' o' s' t' v' r' : Nat} (h : ZS T L w S d o s t v r) (hst : sStm T L S = .inr S1) (hu : HN u 4) (h1 : Atx T L (59 :: u) S1.1) (h2 : ZC S1.2.1 d' o' s' t' v' r') (h3 : ∀ i, i < d' → dgF 32 T (S1.2.2.1 i).1 (S1.2.2.1 i).2 = (i : Int) + 1) (h4 : ∀ i, i < s' → dgF 32 T (S1.2.2.2.1 i).1 (S1.2.2.2.1 i).2 = (i : Int) + 21) : ∃ S', sAll T L S = .inr S' ∧ ZS T L u S' d' o' s' t' v' r' := by
  obtain ⟨q, hq, hA⟩ := semi_at h1 hu
  have he : sAll T L S = .inr (stP S1 q) := by
    unfold sAll
    rw [hst]
    dsimp only
    rw [hq]
    rfl
  have hp : S.1 ≤ L := by have := h.1.1; omega
  exact ⟨stP S1 q, he, hA, (n_all h.2.1 hp he).1, h2, h3, h4⟩
/-- statements one after another -/
theorem run_at {c : Nat} (h : ZS T L w S d o s t v r) (hw : 0 < w.length) (hs : sAll T L S = .inr S') : sRun T L L c S = sRun T L L (c + 1) S' := by
  have := h.1.1
  exact run_step h.2.1 (by omega) (by omega) hs
theorem s_up {γ : Nat → Int} {k n : Nat} (h : δ k = (n : Int)) : stI γ k (δ k + 1) k = ((n + 1 : Nat) : Int) := by
  rw [stI_eq, h]
  omega
theorem ZC_set {k : Nat} {x : Int} (h : ZC δ d o s t v r) (hk : k = 2 ∨ k = 3) : ZC (stI δ k x) d o s t v r := by
  have e : ∀ i, i ≠ k → stI δ k x i = δ i := fun i hi => stI_ne hi
  obtain ⟨⟨a4, a5, a6, a7, a8, a9⟩, ⟨a0, a1⟩, ao⟩ := h
  refine ⟨⟨by rw [e _ (by omega)]; exact a4, by rw [e _ (by omega)]; exact a5, by rw [e _ (by omega)]; exact a6, by rw [e _ (by omega)]; exact a7, by rw [e _ (by omega)]; exact a8, by rw [e _ (by omega)]; exact a9⟩, ⟨by rw [e _ (by omega)]; exact a0, by rw [e _ (by omega)]; exact a1⟩, fun i hi => ?_⟩
  rw [show oF (stI δ k x) i 2 = oF δ i 2 from e _ (by omega), show oF (stI δ k x) i 3 = oF δ i 3 from e _ (by omega)]
  exact ao i hi
theorem st_mixers {m : Nat} (h : ZS T L (kb 2 ++ 32 :: (di m ++ 59 :: u)) S d o s t v r) (hg : S.2.2.2.2 2 = 0) (hm : 1 ≤ m ∧ m ≤ 4) (hu : HN u 4) : ∃ S', sAll T L S = .inr S' ∧ ZS T L u S' d o s t v r := by
  have h' := h
  obtain ⟨h1, h2, h3, h4, h5⟩ := h
  obtain ⟨k1, k2⟩ := kw_at (i := 2) (by omega) h1 (Or.inl ⟨rfl, di_HN (by omega)⟩)
  obtain ⟨n1, n2⟩ := rNum_at (lo := 1) (hi := 4) k2 (by omega) (by omega) (Or.inr ⟨rfl, u, rfl⟩)
  have hk : kwF T L S.1 = 2 := k1
  have hst : sStm T L S = sSet T L S 2 1 4 := by
    unfold sStm
    rw [hk, if_neg (by omega), if_neg (by omega), if_pos rfl]
  have hse : sSet T L S 2 1 4 = .inr (ntF T L (ntF T L S.1), stI S.2.1 2 (m : Int), S.2.2.1, S.2.2.2.1, stI S.2.2.2.2 2 1) := by
    unfold sSet rSet
    rw [hg, if_pos rfl, n1]
    rfl
  rw [hse] at hst
  exact all_at h' hst hu n2 (ZC_set h3 (Or.inl rfl)) h4 h5
theorem st_van {m : Nat} (h : ZS T L (kb 20 ++ 32 :: (di m ++ 59 :: u)) S d o s t v r) (hv : v < 3) (hm : 1 ≤ m ∧ m ≤ 2000) (hu : HN u 4) : ∃ S', sAll T L S = .inr S' ∧ ZS T L u S' d o s t (v + 1) r := by
  have h' := h
  obtain ⟨h1, h2, h3, h4, h5⟩ := h
  obtain ⟨k1, k2⟩ := kw_at (i := 20) (by omega) h1 (Or.inl ⟨rfl, di_HN (by omega)⟩)
  obtain ⟨n1, n2⟩ := rNum_at (lo := 1) (hi := 2000) k2 (by omega) (by omega) (Or.inr ⟨rfl, u, rfl⟩)
  have hk : kwF T L S.1 = 20 := k1
  have hst : sStm T L S = sVan T L S := by
    unfold sStm
    rw [hk, if_neg (by omega), if_neg (by omega), if_neg (by omega), if_neg (by omega), if_neg (by omega), if_neg (by omega), if_neg (by omega), if_neg (by omega), if_pos rfl]
  have e8 : (S.2.1 8).toNat = v := by rw [h3.1.2.2.2.2.1]; omega
  have hse : sVan T L S = .inr (ntF T L (ntF T L S.1), stI (stI S.2.1 (166 + v) (m : Int)) 8 (S.2.1 8 + 1), S.2.2.1, S.2.2.2.1, S.2.2.2.2) := by
    unfold sVan
    rw [e8, beg_0 hv]
    show fin1 (rNum T L 1 2000 (ntF T L S.1)) _ = _
    rw [n1]
    rfl
  rw [hse] at hst
  have e : ∀ i, i ≠ 8 → ¬ (166 ≤ i ∧ i < 169) → stI (stI S.2.1 (166 + v) (m : Int)) 8 (S.2.1 8 + 1) i = S.2.1 i := fun i hi hi2 => by rw [stI_ne hi, stI_ne (by omega)]
  obtain ⟨⟨a4, a5, a6, a7, a8, a9⟩, ⟨a0, a1⟩, ao⟩ := h3
  refine all_at h' hst hu n2 ⟨⟨?_, ?_, ?_, ?_, ?_, ?_⟩, ⟨?_, ?_⟩, fun i hi => ?_⟩ h4 h5
  · exact (e 4 (by omega) (by omega)).trans a4
  · exact (e 5 (by omega) (by omega)).trans a5
  · exact (e 6 (by omega) (by omega)).trans a6
  · exact (e 7 (by omega) (by omega)).trans a7
  · exact s_up (γ := stI S.2.1 (166 + v) (m : Int)) a8
  · exact (e 9 (by omega) (by omega)).trans a9
  · exact (e 0 (by omega) (by omega)).trans a0
  · exact (e 1 (by omega) (by omega)).trans a1
  · have e2 := e (169 + 5 * i + 2) (by omega) (by omega)
    have e3 := e (169 + 5 * i + 3) (by omega) (by omega)
    exact ⟨Int.le_trans (Int.le_of_eq e2) (ao i hi).1, Int.le_trans (ao i hi).2 (Int.le_of_eq e3.symm)⟩
theorem st_shop (h : ZS T L (kb 18 ++ 32 :: ((117 + (s : Int)) :: 59 :: u)) S d o s t v r) (hs : s < 2) (hu : HN u 4) : ∃ S', sAll T L S = .inr S' ∧ ZS T L u S' d o (s + 1) t v r := by
  have h' := h
  obtain ⟨h1, h2, h3, h4, h5⟩ := h
  obtain ⟨k1, k2⟩ := kw_at (i := 18) (by omega) h1 (Or.inl ⟨rfl, ch_HN (by omega)⟩)
  obtain ⟨n1, n2, n3, n4⟩ := rNew_at (nm := S.2.2.2.1) (cnt := s) k2 (by omega) (Or.inr ⟨rfl, u, rfl⟩) (fun i hi => by rw [h5 i hi]; omega)
  have hk : kwF T L S.1 = 18 := k1
  have hst : sStm T L S = sShop T L S := by
    unfold sStm
    rw [hk, if_neg (by omega), if_neg (by omega), if_neg (by omega), if_neg (by omega), if_neg (by omega), if_neg (by omega), if_pos rfl]
  have e6 : (S.2.1 6).toNat = s := by rw [h3.1.2.2.1]; omega
  have hse : sShop T L S = .inr (ntF T L (ntF T L S.1), stI S.2.1 6 (S.2.1 6 + 1), S.2.2.1, stN S.2.2.2.1 s (ntF T L S.1, 1), S.2.2.2.2) := by
    unfold sShop
    rw [e6, beg_0 (by omega)]
    show fin1 (rNew T L S.2.2.2.1 s (ntF T L S.1)) _ = _
    rw [n1]
    show Sum.inr (ntF T L (ntF T L S.1), stI S.2.1 6 (S.2.1 6 + 1), S.2.2.1, stN S.2.2.2.1 s (ntF T L S.1, enF T L (ntF T L S.1) - ntF T L S.1), S.2.2.2.2) = _
    rw [n3]
  rw [hse] at hst
  have e : ∀ i, i ≠ 6 → stI S.2.1 6 (S.2.1 6 + 1) i = S.2.1 i := fun i hi => stI_ne hi
  obtain ⟨⟨a4, a5, a6, a7, a8, a9⟩, ⟨a0, a1⟩, ao⟩ := h3
  refine all_at h' hst hu n2 ⟨⟨?_, ?_, ?_, ?_, ?_, ?_⟩, ⟨?_, ?_⟩, fun i hi => ?_⟩ h4 (fun i hi => ?_)
  · exact (e 4 (by omega)).trans a4
  · exact (e 5 (by omega)).trans a5
  · exact s_up (γ := S.2.1) a6
  · exact (e 7 (by omega)).trans a7
  · exact (e 8 (by omega)).trans a8
  · exact (e 9 (by omega)).trans a9
  · exact (e 0 (by omega)).trans a0
  · exact (e 1 (by omega)).trans a1
  · have e2 := e (169 + 5 * i + 2) (by omega)
    have e3 := e (169 + 5 * i + 3) (by omega)
    exact ⟨Int.le_trans (Int.le_of_eq e2) (ao i hi).1, Int.le_trans (ao i hi).2 (Int.le_of_eq e3.symm)⟩
  · show dgF 32 T (stN S.2.2.2.1 s (ntF T L S.1, 1) i).1 (stN S.2.2.2.1 s (ntF T L S.1, 1) i).2 = (i : Int) + 21
    unfold stN
    by_cases c : i = s
    · rw [if_pos c]
      show dgF 32 T (ntF T L S.1) 1 = _
      rw [n4]
      omega
    · rw [if_neg c]
      exact h5 i (by omega)
/-- fields: words and numbers -/
def ftx : List (Nat × Int × Int) → List Nat → List Int → List Int
  | a :: l, x :: vs, z => kb a.1 ++ 32 :: (di x ++ (if l.isEmpty = true then z else 32 :: ftx l vs z))
  | _, _, z => z
def fok : List (Nat × Int × Int) → List Nat → Prop
  | a :: l, x :: vs => (a.1 < 24 ∧ x < 10000 ∧ a.2.1 ≤ (x : Int) ∧ (x : Int) ≤ a.2.2) ∧ fok l vs
  | [], [] => True
  | _, _ => False
theorem ftx_HN {a : Nat × Int × Int} {l : List (Nat × Int × Int)} {vs : List Nat} (h : fok (a :: l) vs) : HN (ftx (a :: l) vs z) 4 := by
  cases vs with
  | nil => exact h.elim
  | cons x vs => exact kb_HN h.1.1
theorem fl_run : ∀ (l : List (Nat × Int × Int)) (a : Nat × Int × Int) (vs : List Nat) (p : Nat), fok (a :: l) vs → Atx T L (ftx (a :: l) vs (59 :: u)) p → ∃ x q, (flds T L (a :: l) (.inr p)).getD l.length (.inl (0, 0)) = .inr (x, q) ∧ Atx T L (59 :: u) q := by
  intro l
  induction l with
  | nil =>
    intro a vs p hf hA
    cases vs with
    | nil => exact hf.elim
    | cons x vs =>
      obtain ⟨q, h1, h2⟩ := rFld_at (lo := a.2.1) (hi := a.2.2) hA hf.1.1 hf.1.2.1 hf.1.2.2 (Or.inr ⟨rfl, u, rfl⟩)
      exact ⟨_, q, h1, h2⟩
  | cons b l ih =>
    intro a vs p hf hA
    cases vs with
    | nil => exact hf.elim
    | cons x vs =>
      have hA' : Atx T L (kb a.1 ++ 32 :: (di x ++ 32 :: ftx (b :: l) vs (59 :: u))) p := hA
      obtain ⟨q, h1, h2⟩ := rFld_at (lo := a.2.1) (hi := a.2.2) hA' hf.1.1 hf.1.2.1 hf.1.2.2 (Or.inl ⟨rfl, ftx_HN hf.2⟩)
      obtain ⟨y, q2, h3, h4⟩ := ih b vs q hf.2 h2
      refine ⟨y, q2, ?_, h4⟩
      show (rFld T L (a.1 : Int) a.2.1 a.2.2 p :: flds T L (b :: l) (nxS (rFld T L (a.1 : Int) a.2.1 a.2.2 p))).getD (l.length + 1) (.inl (0, 0)) = _
      rw [h1]
      exact h3
theorem st_oven {vs : List Nat} (h : ZS T L (kb 15 ++ 32 :: ftx oFl vs (59 :: u)) S d o s t v r) (ho : o < 4) (hf : fok oFl vs) (hu : HN u 4) : ∃ S', sAll T L S = .inr S' ∧ ZS T L u S' d (o + 1) s t v r := by
  have h' := h
  obtain ⟨h1, h2, h3, h4, h5⟩ := h
  obtain ⟨k1, k2⟩ := kw_at (i := 15) (by omega) h1 (Or.inl ⟨rfl, ftx_HN hf⟩)
  obtain ⟨x, q, n1, n2⟩ := fl_run _ _ vs _ hf k2
  have hk : kwF T L S.1 = 15 := k1
  have hst : sStm T L S = sOven T L S := by
    unfold sStm
    rw [hk, if_neg (by omega), if_neg (by omega), if_neg (by omega), if_neg (by omega), if_neg (by omega), if_pos rfl]
  have e5 : (S.2.1 5).toNat = o := by rw [h3.1.2.1]; omega
  have hR : oRs T L S = flds T L oFl (.inr (ntF T L S.1)) := by
    unfold oRs
    rw [e5, beg_0 ho]
  have hse : sOven T L S = .inr (q, stI (rowI S.2.1 (70 + 4 * o) 3 (oRs T L S)) 5 (S.2.1 5 + 1), S.2.2.1, S.2.2.2.1, S.2.2.2.2) := by
    unfold sOven
    rw [e5]
    have n1' : (oRs T L S).getD 2 (.inl (0, 0)) = .inr (x, q) := by rw [hR]; exact n1
    rw [n1']
    rfl
  rw [hse] at hst
  have e : ∀ i, i ≠ 5 → ¬ (70 ≤ i ∧ i < 86) → stI (rowI S.2.1 (70 + 4 * o) 3 (oRs T L S)) 5 (S.2.1 5 + 1) i = S.2.1 i := fun i hi hi2 => by rw [stI_ne hi, row_out (by omega)]
  obtain ⟨⟨a4, a5, a6, a7, a8, a9⟩, ⟨a0, a1⟩, ao⟩ := h3
  refine all_at h' hst hu n2 ⟨⟨?_, ?_, ?_, ?_, ?_, ?_⟩, ⟨?_, ?_⟩, fun i hi => ?_⟩ h4 h5
  · exact (e 4 (by omega) (by omega)).trans a4
  · exact s_up (γ := rowI S.2.1 (70 + 4 * o) 3 (oRs T L S)) a5
  · exact (e 6 (by omega) (by omega)).trans a6
  · exact (e 7 (by omega) (by omega)).trans a7
  · exact (e 8 (by omega) (by omega)).trans a8
  · exact (e 9 (by omega) (by omega)).trans a9
  · exact (e 0 (by omega) (by omega)).trans a0
  · exact (e 1 (by omega) (by omega)).trans a1
  · have e2 := e (169 + 5 * i + 2) (by omega) (by omega)
    have e3 := e (169 + 5 * i + 3) (by omega) (by omega)
    exact ⟨Int.le_trans (Int.le_of_eq e2) (ao i hi).1, Int.le_trans (ao i hi).2 (Int.le_of_eq e3.symm)⟩
theorem st_dough {vs : List Nat} (h : ZS T L (kb 4 ++ 32 :: ((97 + (d : Int)) :: 32 :: ftx dFl vs (59 :: u))) S d o s t v r) (hd : d < 2) (hf : fok dFl vs) (hu : HN u 4) : ∃ S', sAll T L S = .inr S' ∧ ZS T L u S' (d + 1) o s t v r := by
  have h' := h
  obtain ⟨h1, h2, h3, h4, h5⟩ := h
  obtain ⟨k1, k2⟩ := kw_at (i := 4) (by omega) h1 (Or.inl ⟨rfl, ch_HN (by omega)⟩)
  obtain ⟨m1, m2, m3, m4⟩ := rNew_at (nm := S.2.2.1) (cnt := d) k2 (by omega) (Or.inl ⟨rfl, ftx_HN hf⟩) (fun i hi => by rw [h4 i hi]; omega)
  obtain ⟨x, q, n1, n2⟩ := fl_run _ _ vs _ hf m2
  have hk : kwF T L S.1 = 4 := k1
  have hst : sStm T L S = sDough T L S := by
    unfold sStm
    rw [hk, if_neg (by omega), if_neg (by omega), if_neg (by omega), if_neg (by omega), if_pos rfl]
  have e4 : (S.2.1 4).toNat = d := by rw [h3.1.1]; omega
  have hR : dRs T L S = flds T L dFl (.inr (ntF T L (ntF T L S.1))) := by
    unfold dRs dSt
    rw [e4, beg_0 (by omega)]
    show flds T L dFl (nxS (rNew T L S.2.2.1 d (ntF T L S.1))) = _
    rw [m1]
    rfl
  have hse : sDough T L S = .inr (q, stI (rowI S.2.1 (10 + 10 * d) 10 (dRs T L S)) 4 (S.2.1 4 + 1), stN S.2.2.1 d (ntF T L S.1, 1), S.2.2.2.1, S.2.2.2.2) := by
    unfold sDough
    have n1' : (dRs T L S).getD 9 (.inl (0, 0)) = .inr (x, q) := by rw [hR]; exact n1
    rw [n1', e4, beg_0 (by omega)]
    show Sum.inr (q, stI (rowI S.2.1 (10 + 10 * d) 10 (dRs T L S)) 4 (S.2.1 4 + 1), stN S.2.2.1 d (ntF T L S.1, enF T L (ntF T L S.1) - ntF T L S.1), S.2.2.2.1, S.2.2.2.2) = _
    rw [m3]
  rw [hse] at hst
  have e : ∀ i, i ≠ 4 → ¬ (10 ≤ i ∧ i < 70) → stI (rowI S.2.1 (10 + 10 * d) 10 (dRs T L S)) 4 (S.2.1 4 + 1) i = S.2.1 i := fun i hi hi2 => by rw [stI_ne hi, row_out (by omega)]
  obtain ⟨⟨a4, a5, a6, a7, a8, a9⟩, ⟨a0, a1⟩, ao⟩ := h3
  refine all_at h' hst hu n2 ⟨⟨?_, ?_, ?_, ?_, ?_, ?_⟩, ⟨?_, ?_⟩, fun i hi => ?_⟩ (fun i hi => ?_) h5
  · exact s_up (γ := rowI S.2.1 (10 + 10 * d) 10 (dRs T L S)) a4
  · exact (e 5 (by omega) (by omega)).trans a5
  · exact (e 6 (by omega) (by omega)).trans a6
  · exact (e 7 (by omega) (by omega)).trans a7
  · exact (e 8 (by omega) (by omega)).trans a8
  · exact (e 9 (by omega) (by omega)).trans a9
  · exact (e 0 (by omega) (by omega)).trans a0
  · exact (e 1 (by omega) (by omega)).trans a1
  · have e2 := e (169 + 5 * i + 2) (by omega) (by omega)
    have e3 := e (169 + 5 * i + 3) (by omega) (by omega)
    exact ⟨Int.le_trans (Int.le_of_eq e2) (ao i hi).1, Int.le_trans (ao i hi).2 (Int.le_of_eq e3.symm)⟩
  · show dgF 32 T (stN S.2.2.1 d (ntF T L S.1, 1) i).1 (stN S.2.2.1 d (ntF T L S.1, 1) i).2 = (i : Int) + 1
    unfold stN
    by_cases c : i = d
    · rw [if_pos c]
      show dgF 32 T (ntF T L S.1) 1 = _
      rw [m4]
      omega
    · rw [if_neg c]
      exact h4 i (by omega)
/-- a street: its two places stand -/
theorem st_street {m : Nat} {x1 x2 : Int} {p2 p3 : Nat} {w : List Int} (h : ZS T L w S d o s t v r) (ht : t < 20) (hk : kwF T L S.1 = 19) (r1 : rPl T L S.2.2.2.1 s (-1) (ntF T L S.1) = .inr (x1, p2)) (r2 : rPl T L S.2.2.2.1 s x1 p2 = .inr (x2, p3)) (hA : Atx T L (di m ++ 59 :: u) p3) (hm : 1 ≤ m ∧ m ≤ 120) (hu : HN u 4) : ∃ S', sAll T L S = .inr S' ∧ ZS T L u S' d o s (t + 1) v r := by
  have h' := h
  obtain ⟨h1, h2, h3, h4, h5⟩ := h
  obtain ⟨n1, n2⟩ := rNum_at (lo := 1) (hi := 120) hA (by omega) (by omega) (Or.inr ⟨rfl, u, rfl⟩)
  have hst : sStm T L S = sStreet T L S := by
    unfold sStm
    rw [hk, if_neg (by omega), if_neg (by omega), if_neg (by omega), if_neg (by omega), if_neg (by omega), if_neg (by omega), if_neg (by omega), if_pos rfl]
  have e7 : (S.2.1 7).toNat = t := by rw [h3.1.2.2.2.1]; omega
  have e6 : (S.2.1 6).toNat = s := by rw [h3.1.2.2.1]; omega
  have ht1 : t1S T L S = .inr (x1, p2) := by
    unfold t1S
    rw [e7, e6, beg_0 ht]
    exact r1
  have ht2 : t2S T L S = .inr (x2, p3) := by
    unfold t2S
    rw [ht1, e6]
    exact r2
  have hse : sStreet T L S = .inr (ntF T L p3, stI (stI (stI (stI S.2.1 (86 + 4 * t) (plR x1)) (86 + 4 * t + 1) (plR x2)) (86 + 4 * t + 2) (m : Int)) 7 (S.2.1 7 + 1), S.2.2.1, S.2.2.2.1, S.2.2.2.2) := by
    unfold sStreet
    rw [ht1, ht2, e7]
    show fin1 (rNum T L 1 120 p3) _ = _
    rw [n1]
    rfl
  rw [hse] at hst
  have e : ∀ i, i ≠ 7 → ¬ (86 ≤ i ∧ i < 166) → stI (stI (stI (stI S.2.1 (86 + 4 * t) (plR x1)) (86 + 4 * t + 1) (plR x2)) (86 + 4 * t + 2) (m : Int)) 7 (S.2.1 7 + 1) i = S.2.1 i := fun i hi hi2 => by rw [stI_ne hi, stI_ne (by omega), stI_ne (by omega), stI_ne (by omega)]
  obtain ⟨⟨a4, a5, a6, a7, a8, a9⟩, ⟨a0, a1⟩, ao⟩ := h3
  refine all_at h' hst hu n2 ⟨⟨?_, ?_, ?_, ?_, ?_, ?_⟩, ⟨?_, ?_⟩, fun i hi => ?_⟩ h4 h5
  · exact (e 4 (by omega) (by omega)).trans a4
  · exact (e 5 (by omega) (by omega)).trans a5
  · exact (e 6 (by omega) (by omega)).trans a6
  · exact s_up (γ := stI (stI (stI S.2.1 (86 + 4 * t) (plR x1)) (86 + 4 * t + 1) (plR x2)) (86 + 4 * t + 2) (m : Int)) a7
  · exact (e 8 (by omega) (by omega)).trans a8
  · exact (e 9 (by omega) (by omega)).trans a9
  · exact (e 0 (by omega) (by omega)).trans a0
  · exact (e 1 (by omega) (by omega)).trans a1
  · have e2 := e (169 + 5 * i + 2) (by omega) (by omega)
    have e3 := e (169 + 5 * i + 3) (by omega) (by omega)
    exact ⟨Int.le_trans (Int.le_of_eq e2) (ao i hi).1, Int.le_trans (ao i hi).2 (Int.le_of_eq e3.symm)⟩
theorem st_home {m i : Nat} (h : ZS T L (kb 19 ++ 32 :: (kb 23 ++ 32 :: ((117 + (i : Int)) :: 32 :: (di m ++ 59 :: u)))) S d o s t v r) (ht : t < 20) (hi : i < s) (hs : s ≤ 2) (hm : 1 ≤ m ∧ m ≤ 120) (hu : HN u 4) : ∃ S', sAll T L S = .inr S' ∧ ZS T L u S' d o s (t + 1) v r := by
  obtain ⟨k1, k2⟩ := kw_at (i := 19) (by omega) h.1 (Or.inl ⟨rfl, kb_HN (by omega)⟩)
  obtain ⟨l1, l2⟩ := rPl_home (nm := S.2.2.2.1) (cnt := s) (o := -1) k2 (Or.inl ⟨rfl, ch_HN (by omega)⟩) (by omega)
  obtain ⟨m1, m2⟩ := rPl_at (nm := S.2.2.2.1) (cnt := s) (o := 7) (i := i) l2 (by omega) (Or.inl ⟨rfl, di_HN (by omega)⟩) hi (by rw [h.2.2.2.2 i hi]; omega) (fun j hj => by rw [h.2.2.2.2 j (by omega)]; omega) (by omega)
  exact st_street h ht k1 l1 m1 m2 hm hu
theorem st_uv {m : Nat} (h : ZS T L (kb 19 ++ 32 :: (117 :: 32 :: (118 :: 32 :: (di m ++ 59 :: u)))) S d o s t v r) (ht : t < 20) (hs : s = 2) (hm : 1 ≤ m ∧ m ≤ 120) (hu : HN u 4) : ∃ S', sAll T L S = .inr S' ∧ ZS T L u S' d o s (t + 1) v r := by
  obtain ⟨k1, k2⟩ := kw_at (i := 19) (by omega) h.1 (Or.inl ⟨rfl, ch_HN (by omega)⟩)
  obtain ⟨l1, l2⟩ := rPl_at (nm := S.2.2.2.1) (cnt := s) (o := -1) (i := 0) k2 (by omega) (Or.inl ⟨rfl, ch_HN (by omega)⟩) (by omega) (by rw [h.2.2.2.2 0 (by omega)]; omega) (fun j hj => absurd hj (Nat.not_lt_zero _)) (by omega)
  obtain ⟨m1, m2⟩ := rPl_at (nm := S.2.2.2.1) (cnt := s) (o := ((0 : Nat) : Int)) (i := 1) l2 (by omega) (Or.inl ⟨rfl, di_HN (by omega)⟩) (by omega) (by rw [h.2.2.2.2 1 (by omega)]; omega) (fun j hj => by rw [h.2.2.2.2 j (by omega)]; omega) (by omega)
  exact st_street h ht k1 l1 m1 m2 hm hu
theorem st_order {m b i k : Nat} (h : ZS T L (kb 21 ++ 32 :: ((117 + (i : Int)) :: 32 :: ((97 + (k : Int)) :: 32 :: (di m ++ 32 :: (kb 22 ++ 32 :: (di b ++ 59 :: u)))))) S d o s t v r) (hr : r < 24) (hi : i < s) (hs : s ≤ 2) (hk2 : k < d) (hd : d ≤ 2) (hm : 1 ≤ m ∧ m ≤ 40) (hb : 200 ≤ b ∧ b ≤ 1400) (hu : HN u 4) : ∃ S', sAll T L S = .inr S' ∧ ZS T L u S' d o s t v (r + 1) := by
  have h' := h
  obtain ⟨h1, h2, h3, h4, h5⟩ := h
  obtain ⟨k1, k2⟩ := kw_at (i := 21) (by omega) h1 (Or.inl ⟨rfl, ch_HN (by omega)⟩)
  obtain ⟨l1, l2⟩ := rKnw_at (nm := S.2.2.2.1) (cnt := s) (i := i) k2 (by omega) (Or.inl ⟨rfl, ch_HN (by omega)⟩) hi (by rw [h5 i hi]; omega) (fun j hj => by rw [h5 j (by omega)]; omega)
  obtain ⟨m1, m2⟩ := rKnw_at (nm := S.2.2.1) (cnt := d) (i := k) l2 (by omega) (Or.inl ⟨rfl, di_HN (by omega)⟩) hk2 (by rw [h4 k hk2]; omega) (fun j hj => by rw [h4 j (by omega)]; omega)
  obtain ⟨n1, n2⟩ := rNum_at (lo := 1) (hi := 200) m2 (by omega) (by omega) (Or.inl ⟨rfl, kb_HN (by omega)⟩)
  obtain ⟨q, o1, o2⟩ := rFld_at (lo := 0) (hi := 1439) n2 (by omega) (by omega) (by omega) (Or.inr ⟨rfl, u, rfl⟩)
  have hk : kwF T L S.1 = 21 := k1
  have hst : sStm T L S = sOrder T L S := by
    unfold sStm
    rw [hk, if_neg (by omega), if_neg (by omega), if_neg (by omega), if_neg (by omega), if_neg (by omega), if_neg (by omega), if_neg (by omega), if_neg (by omega), if_neg (by omega), if_pos rfl]
  have e9 : (S.2.1 9).toNat = r := by rw [h3.1.2.2.2.2.2]; omega
  have e6 : (S.2.1 6).toNat = s := by rw [h3.1.2.2.1]; omega
  have e4 : (S.2.1 4).toNat = d := by rw [h3.1.1]; omega
  have g1 : o1S T L S = .inr ((i : Int), ntF T L (ntF T L S.1)) := by
    unfold o1S
    rw [e9, e6, beg_0 hr]
    exact l1
  have g2 : o2S T L S = .inr ((k : Int), ntF T L (ntF T L (ntF T L S.1))) := by
    unfold o2S
    rw [g1, e4]
    exact m1
  have g3 : o3S T L S = .inr ((m : Int), ntF T L (ntF T L (ntF T L (ntF T L S.1)))) := by
    unfold o3S
    rw [g2]
    exact n1
  have hse : sOrder T L S = .inr (q, stI (stI (stI (stI (stI S.2.1 (169 + 5 * r) (i : Int)) (169 + 5 * r + 1) (k : Int)) (169 + 5 * r + 2) (m : Int)) (169 + 5 * r + 3) (b : Int)) 9 (S.2.1 9 + 1), S.2.2.1, S.2.2.2.1, S.2.2.2.2) := by
    unfold sOrder
    rw [g1, g2, g3, e9]
    show fin1 (rFld T L 22 0 1439 (ntF T L (ntF T L (ntF T L (ntF T L S.1))))) _ = _
    rw [show (22 : Int) = ((22 : Nat) : Int) from rfl, o1]
    rfl
  rw [hse] at hst
  have e : ∀ i2, i2 ≠ 9 → ¬ (169 + 5 * r ≤ i2 ∧ i2 < 169 + 5 * r + 4) → stI (stI (stI (stI (stI S.2.1 (169 + 5 * r) (i : Int)) (169 + 5 * r + 1) (k : Int)) (169 + 5 * r + 2) (m : Int)) (169 + 5 * r + 3) (b : Int)) 9 (S.2.1 9 + 1) i2 = S.2.1 i2 := fun i2 hi hi2 => by rw [stI_ne hi, stI_ne (by omega), stI_ne (by omega), stI_ne (by omega), stI_ne (by omega)]
  have f2 : stI (stI (stI (stI (stI S.2.1 (169 + 5 * r) (i : Int)) (169 + 5 * r + 1) (k : Int)) (169 + 5 * r + 2) (m : Int)) (169 + 5 * r + 3) (b : Int)) 9 (S.2.1 9 + 1) (169 + 5 * r + 2) = (m : Int) := by rw [stI_ne (by omega), stI_ne (by omega), stI_eq]
  have f3 : stI (stI (stI (stI (stI S.2.1 (169 + 5 * r) (i : Int)) (169 + 5 * r + 1) (k : Int)) (169 + 5 * r + 2) (m : Int)) (169 + 5 * r + 3) (b : Int)) 9 (S.2.1 9 + 1) (169 + 5 * r + 3) = (b : Int) := by rw [stI_ne (by omega), stI_eq]
  obtain ⟨⟨a4, a5, a6, a7, a8, a9⟩, ⟨a0, a1⟩, ao⟩ := h3
  refine all_at h' hst hu o2 ⟨⟨?_, ?_, ?_, ?_, ?_, ?_⟩, ⟨?_, ?_⟩, fun i2 hi2 => ?_⟩ h4 h5
  · exact (e 4 (by omega) (by omega)).trans a4
  · exact (e 5 (by omega) (by omega)).trans a5
  · exact (e 6 (by omega) (by omega)).trans a6
  · exact (e 7 (by omega) (by omega)).trans a7
  · exact (e 8 (by omega) (by omega)).trans a8
  · exact s_up (γ := stI (stI (stI (stI S.2.1 (169 + 5 * r) (i : Int)) (169 + 5 * r + 1) (k : Int)) (169 + 5 * r + 2) (m : Int)) (169 + 5 * r + 3) (b : Int)) a9
  · exact (e 0 (by omega) (by omega)).trans a0
  · exact (e 1 (by omega) (by omega)).trans a1
  · by_cases c : i2 = r
    · subst c
      refine ⟨?_, ?_⟩
      · exact Int.le_trans (Int.le_of_eq f2) (by omega)
      · exact Int.le_trans (by omega) (Int.le_of_eq f3.symm)
    · have e2 := e (169 + 5 * i2 + 2) (by omega) (by omega)
      have e3 := e (169 + 5 * i2 + 3) (by omega) (by omega)
      exact ⟨Int.le_trans (Int.le_of_eq e2) (ao i2 (by omega)).1, Int.le_trans (ao i2 (by omega)).2 (Int.le_of_eq e3.symm)⟩
end STMS
