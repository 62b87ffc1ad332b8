/-! TEXTS: tokens, mathematically; the class's scanner -/
section TX1
/-- the kind of a byte: 1 letter, 2 digit, 3 semicolon, 4 blank, 5 another -/
def kF (x : Int) : Int := if 97 ≤ x ∧ x ≤ 122 then 1 else if 48 ≤ x ∧ x ≤ 57 then 2 else if x = 32 ∨ x = 10 then 4 else if x = 59 then 3 else 5
theorem kF_bd (x : Int) : 1 ≤ kF x ∧ kF x ≤ 5 := by
  unfold kF
  repeat' split
  all_goals omega
theorem c_kindOf {x : Int} (h1 : -2147483648 ≤ x) (h2 : x < 2147483648) : m_X10_kindOf x = kF x := by
  unfold m_X10_kindOf kF
  rw [zI_of h1 h2]
  repeat' split
  all_goals omega
/-- where blanks end; where a run of a kind ends -/
def skF (T : Nat → Int) (L p : Nat) : Nat := fsF (fun q => decide (kF (T q) ≠ 4)) (L - p) p
def rnF (T : Nat → Int) (L : Nat) (k : Int) (p : Nat) : Nat := fsF (fun q => decide (kF (T q) ≠ k)) (L - p) p
/-- the kind of the token at a place (0: the end), where it ends -/
def kdF (T : Nat → Int) (L p : Nat) : Int := if p < L then kF (T p) else 0
def enF (T : Nat → Int) (L p : Nat) : Nat := if p < L then (if kF (T p) ≤ 2 then rnF T L (kF (T p)) (p + 1) else p + 1) else p
/-- the token behind -/
def ntF (T : Nat → Int) (L p : Nat) : Nat := skF T L (enF T L p)
variable {T : Nat → Int} {L p : Nat}
theorem skF_spec (hp : p ≤ L) : p ≤ skF T L p ∧ skF T L p ≤ L ∧ (∀ q, p ≤ q → q < skF T L p → kF (T q) = 4) ∧ (skF T L p < L → kF (T (skF T L p)) ≠ 4) := by
  obtain ⟨h1, h2, h3, h4⟩ := fsF_spec (fun q => decide (kF (T q) ≠ 4)) (L - p) p
  unfold skF
  refine ⟨h1, by omega, fun q a b => ?_, fun h => ?_⟩
  · have := h4 q a b
    rw [decide_eq_false_iff_not] at this
    omega
  · have := h3 (by omega)
    rw [decide_eq_true_eq] at this
    exact this
theorem rnF_spec {k : Int} (hp : p ≤ L) : p ≤ rnF T L k p ∧ rnF T L k p ≤ L ∧ (∀ q, p ≤ q → q < rnF T L k p → kF (T q) = k) ∧ (rnF T L k p < L → kF (T (rnF T L k p)) ≠ k) := by
  obtain ⟨h1, h2, h3, h4⟩ := fsF_spec (fun q => decide (kF (T q) ≠ k)) (L - p) p
  unfold rnF
  refine ⟨h1, by omega, fun q a b => ?_, fun h => ?_⟩
  · have := h4 q a b
    rw [decide_eq_false_iff_not] at this
    omega
  · have := h3 (by omega)
    rw [decide_eq_true_eq] at this
    exact this
theorem enF_spec (hp : p ≤ L) : p ≤ enF T L p ∧ enF T L p ≤ L ∧ (p < L → p < enF T L p) := by
  unfold enF
  by_cases c : p < L
  · rw [if_pos c]
    split
    · have := rnF_spec (T := T) (L := L) (k := kF (T p)) (p := p + 1) (by omega)
      omega
    · omega
  · rw [if_neg c]
    omega
theorem ntF_spec (hp : p ≤ L) : p ≤ ntF T L p ∧ ntF T L p ≤ L ∧ (p < L → p < ntF T L p) ∧ (ntF T L p < L → kF (T (ntF T L p)) ≠ 4) := by
  have h1 := enF_spec (T := T) hp
  have h2 := skF_spec (T := T) (L := L) (p := enF T L p) h1.2.1
  unfold ntF
  exact ⟨by omega, h2.2.1, fun h => by have := h1.2.2 h; omega, h2.2.2.2⟩
/-- the class's scanner, its token at p -/
def SC (σ : xS) (T : Nat → Int) (L p : Nat) : Prop := σ 1 = T ∧ σ 3 1 = (L : Int) ∧ σ 3 2 = kdF T L p ∧ σ 3 3 = (p : Int) ∧ σ 3 4 = (enF T L p : Int) ∧ p ≤ L ∧ L ≤ 1600 ∧ (∀ q, -128 ≤ T q ∧ T q ≤ 127) ∧ (p < L → kF (T p) ≠ 4) ∧ σ 3 0 = 1
/-- what the scanner may change -/
def sfr3 (σ τ : xS) : Prop := ∀ k j, ¬ (k = 3 ∧ (j = 2 ∨ j = 3 ∨ j = 4)) → τ k j = σ k j
variable {σ τ : xS} {n : Nat}
theorem c_nextAt {q : Nat} (h30 : σ 3 0 = 1) (h1 : σ 1 = T) (hL : σ 3 1 = (L : Int)) (h4 : σ 3 4 = (q : Int)) (hq : q ≤ L) (hL2 : L ≤ 1600) (hT : ∀ q, -128 ≤ T q ∧ T q ≤ 127) (hn : 4000000 ≤ n) : OK (m_X10_next n σ) (fun τ => SC τ T L (skF T L q) ∧ sfr3 σ τ) := by
  obtain ⟨s1, s2, s3, s4⟩ := skF_spec (T := T) (L := L) (p := q) hq
  unfold m_X10_next
  rw [xlet_eq]
  refine loop_for (skF T L q - q) (fun i (t : xS) => t 3 3 = ((q + i : Nat) : Int) ∧ (∀ k j, ¬ (k = 3 ∧ j = 3) → t k j = σ k j)) ?_ ?_ (by omega) ⟨by rw [xput_eq, h4]; rfl, fun k j h => xput_ne h⟩
  · rintro i t hi ⟨g1, g2⟩ rec hrec
    have e1 : t 3 1 = (L : Int) := by rw [g2 _ _ (by omega)]; exact hL
    have eT : t 1 (q + i) = T (q + i) := by rw [g2 _ _ (by omega), h1]
    have hb := hT (q + i)
    have hk := s3 (q + i) (by omega) (by omega)
    have e0 : t 3 0 ≠ 0 := by rw [g2 _ _ (by omega), h30]; decide
    try dsimp only
    rw [xj_eq]
    simp only [e1, g1]
    rw [zI_of (n := (L : Int)) (by omega) (by omega), zI_of (n := ((q + i : Nat) : Int)) (by omega) (by omega), if_neg (by omega), xnz_of e0, xck_of (by omega) (by omega)]
    simp only [tn_cast, eT]
    rw [c_kindOf (by omega) (by omega), hk, zI_of (n := 4) (by omega) (by omega), if_pos rfl, xlet_eq]
    refine hrec _ ⟨?_, fun k j h => ?_⟩
    · rw [xput_eq]
      omega
    · rw [xput_ne h]
      exact g2 k j h
  · rintro t ⟨g1, g2⟩ rec
    have e1 : t 3 1 = (L : Int) := by rw [g2 _ _ (by omega)]; exact hL
    have hP : q + (skF T L q - q) = skF T L q := by omega
    rw [hP] at g1
    generalize hPP : skF T L q = P at s1 s2 s4 g1 ⊢
    have eT : t 1 P = T P := by rw [g2 _ _ (by omega), h1]
    have hb := hT P
    have f3 : (xput t 3 4 (P : Int)) 3 3 = (P : Int) := by rw [xput_ne (by omega)]; exact g1
    have f1 : (xput t 3 4 (P : Int)) 3 1 = (L : Int) := by rw [xput_ne (by omega)]; exact e1
    have fT : ∀ j, (xput t 3 4 (P : Int)) 1 j = T j := fun j => by rw [xput_ne (by omega), g2 _ _ (by omega), h1]
    have f0 : ∀ k j, ¬ (k = 3 ∧ (j = 3 ∨ j = 4)) → (xput t 3 4 (P : Int)) k j = σ k j := fun k j h => by rw [xput_ne (by omega)]; exact g2 k j (by omega)
    have f4 : (xput t 3 4 (P : Int)) 3 4 = (P : Int) := xput_eq
    have fin : OK ((fun (_ : Unit) => xlet (xput t 3 4 (t 3 3)) fun s8 => if (zI (s8 3 3)) < (zI (s8 3 1)) then xnz (s8 3 0) <| xck (zI (s8 3 3)) 1600 <| xlet (xput s8 3 2 (m_X10_kindOf (s8 1 (zI (s8 3 3)).toNat))) fun s10 => xlet (xput s10 3 4 ((s10 3 4) + 1)) fun s11 => loopF (fun rec13 (t12 : xS) => xj (fun (q17 : Unit) => some t12) fun J15 => if 2 < (zI (t12 3 2)) then J15 () else if (zI (t12 3 1)) ≤ (zI (t12 3 4)) then J15 () else xnz (t12 3 0) <| xck (zI (t12 3 4)) 1600 <| if (zI (m_X10_kindOf (t12 1 (zI (t12 3 4)).toNat))) = (zI (t12 3 2)) then xlet (xput t12 3 4 ((t12 3 4) + 1)) fun s21 => rec13 s21 else J15 ()) n s11 else xlet (xput s8 3 2 0) fun s22 => some s22) ()) (fun τ => SC τ T L P ∧ sfr3 σ τ) := by
      try dsimp only
      rw [xlet_eq, g1]
      generalize xput t 3 4 (P : Int) = s8 at f3 f1 fT f0 f4
      simp only [f3, f1]
      rw [zI_of (n := (P : Int)) (by omega) (by omega), zI_of (n := (L : Int)) (by omega) (by omega)]
      by_cases c : P < L
      · have hkb := kF_bd (T P)
        have p0 : s8 3 0 ≠ 0 := by rw [f0 _ _ (by omega), h30]; decide
        rw [if_pos (by omega), xnz_of p0, xck_of (by omega) (by omega)]
        simp only [tn_cast, fT]
        rw [c_kindOf (by omega) (by omega), xlet_eq, xlet_eq]
        have u2 : (xput (xput s8 3 2 (kF (T P))) 3 4 ((xput s8 3 2 (kF (T P))) 3 4 + 1)) 3 2 = kF (T P) := by rw [xput_ne (by omega), xput_eq]
        have u3 : (xput (xput s8 3 2 (kF (T P))) 3 4 ((xput s8 3 2 (kF (T P))) 3 4 + 1)) 3 3 = (P : Int) := by rw [xput_ne (by omega), xput_ne (by omega)]; exact f3
        have u1 : (xput (xput s8 3 2 (kF (T P))) 3 4 ((xput s8 3 2 (kF (T P))) 3 4 + 1)) 3 1 = (L : Int) := by rw [xput_ne (by omega), xput_ne (by omega)]; exact f1
        have u4 : (xput (xput s8 3 2 (kF (T P))) 3 4 ((xput s8 3 2 (kF (T P))) 3 4 + 1)) 3 4 = ((P + 1 : Nat) : Int) := by rw [xput_eq, xput_ne (by omega), f4]; rfl
        have uT : ∀ j, (xput (xput s8 3 2 (kF (T P))) 3 4 ((xput s8 3 2 (kF (T P))) 3 4 + 1)) 1 j = T j := fun j => by rw [xput_ne (by omega), xput_ne (by omega)]; exact fT j
        have u0 : ∀ k j, ¬ (k = 3 ∧ (j = 2 ∨ j = 3 ∨ j = 4)) → (xput (xput s8 3 2 (kF (T P))) 3 4 ((xput s8 3 2 (kF (T P))) 3 4 + 1)) k j = σ k j := fun k j h => by rw [xput_ne (by omega), xput_ne (by omega)]; exact f0 k j (by omega)
        generalize xput (xput s8 3 2 (kF (T P))) 3 4 ((xput s8 3 2 (kF (T P))) 3 4 + 1) = s11 at u2 u3 u1 u4 uT u0
        have heE : enF T L P = if kF (T P) ≤ 2 then rnF T L (kF (T P)) (P + 1) else P + 1 := if_pos c
        have hkd : kdF T L P = kF (T P) := if_pos c
        obtain ⟨r1, r2, r3, r4⟩ := rnF_spec (T := T) (L := L) (k := kF (T P)) (p := P + 1) (by omega)
        refine loop_for (enF T L P - (P + 1)) (fun i (y : xS) => y 3 4 = ((P + 1 + i : Nat) : Int) ∧ (∀ k j, ¬ (k = 3 ∧ j = 4) → y k j = s11 k j)) ?_ ?_ (by rw [heE]; split <;> omega) ⟨u4, fun _ _ _ => rfl⟩
        · rintro i y hi ⟨w1, w2⟩ rec2 hrec2
          have hc2 : kF (T P) ≤ 2 := by
            refine Int.not_lt.mp fun h => ?_
            rw [heE, if_neg (by omega)] at hi
            omega
          rw [heE, if_pos hc2] at hi
          have hk := r3 (P + 1 + i) (by omega) (by omega)
          have y0 : y 3 0 ≠ 0 := by rw [w2 _ _ (by omega), u0 _ _ (by omega), h30]; decide
          have hb2 := hT (P + 1 + i)
          have y2 : y 3 2 = kF (T P) := by rw [w2 _ _ (by omega)]; exact u2
          have y1 : y 3 1 = (L : Int) := by rw [w2 _ _ (by omega)]; exact u1
          have yT : y 1 (P + 1 + i) = T (P + 1 + i) := by rw [w2 _ _ (by omega)]; exact uT _
          try dsimp only
          rw [xj_eq]
          simp only [y2, y1, w1]
          rw [zI_of (n := kF (T P)) (by omega) (by omega), if_neg (by omega), zI_of (n := (L : Int)) (by omega) (by omega), zI_of (n := ((P + 1 + i : Nat) : Int)) (by omega) (by omega), if_neg (by omega), xnz_of y0, xck_of (by omega) (by omega)]
          simp only [tn_cast, yT]
          rw [c_kindOf (by omega) (by omega), hk, zI_of (n := kF (T P)) (by omega) (by omega), if_pos rfl, xlet_eq]
          refine hrec2 _ ⟨?_, fun k j h => ?_⟩
          · rw [xput_eq]
            omega
          · rw [xput_ne h]
            exact w2 k j h
        · rintro y ⟨w1, w2⟩ rec2
          have hee : P + 1 + (enF T L P - (P + 1)) = enF T L P := by
            rw [heE]
            split <;> omega
          rw [hee] at w1
          have y2 : y 3 2 = kF (T P) := by rw [w2 _ _ (by omega)]; exact u2
          have y1 : y 3 1 = (L : Int) := by rw [w2 _ _ (by omega)]; exact u1
          have hok : OK (some y) (fun τ => SC τ T L P ∧ sfr3 σ τ) := by
            refine OK_some ⟨⟨?_, y1, by rw [y2, hkd], by rw [w2 _ _ (by omega)]; exact u3, w1, by omega, hL2, hT, s4, by rw [w2 _ _ (by omega), u0 _ _ (by omega)]; exact h30⟩, fun k j h => ?_⟩
            · funext j
              rw [w2 _ _ (by omega)]
              exact uT j
            · rw [w2 _ _ (by omega)]
              exact u0 k j h
          try dsimp only
          rw [xj_eq]
          simp only [y2, y1, w1]
          rw [zI_of (n := kF (T P)) (by omega) (by omega)]
          by_cases c2 : 2 < kF (T P)
          · rw [if_pos c2]
            exact hok
          · have heE2 : enF T L P = rnF T L (kF (T P)) (P + 1) := by rw [heE, if_pos (by omega)]
            rw [if_neg c2, zI_of (n := (L : Int)) (by omega) (by omega), zI_of (n := (enF T L P : Int)) (by omega) (by omega)]
            by_cases c3 : L ≤ enF T L P
            · rw [if_pos (by omega)]
              exact hok
            · have hk := r4 (by omega)
              rw [← heE2] at hk
              have hkb2 := kF_bd (T (enF T L P))
              have hb2 := hT (enF T L P)
              have yT : y 1 (enF T L P) = T (enF T L P) := by rw [w2 _ _ (by omega)]; exact uT _
              have y0 : y 3 0 ≠ 0 := by rw [w2 _ _ (by omega), u0 _ _ (by omega), h30]; decide
              rw [if_neg (by omega), xnz_of y0, xck_of (by omega) (by omega)]
              simp only [tn_cast, yT]
              rw [c_kindOf (by omega) (by omega), zI_of (n := kF (T (enF T L P))) (by omega) (by omega), if_neg hk]
              exact hok
      · have hkd : kdF T L P = 0 := if_neg c
        have hee : enF T L P = P := if_neg c
        rw [if_neg (by omega), xlet_eq]
        refine OK_some ⟨⟨?_, ?_, by rw [xput_eq, hkd], ?_, ?_, by omega, hL2, hT, s4, by rw [xput_ne (by omega), f0 _ _ (by omega)]; exact h30⟩, fun k j h => ?_⟩
        · funext j
          rw [xput_ne (by omega)]
          exact fT j
        · rw [xput_ne (by omega)]
          exact f1
        · rw [xput_ne (by omega)]
          exact f3
        · rw [xput_ne (by omega), hee]
          exact f4
        · rw [xput_ne (by omega)]
          exact f0 k j (by omega)
    try dsimp only
    rw [xj_eq]
    by_cases c : L ≤ P
    · simp only [e1, g1]
      rw [zI_of (n := (L : Int)) (by omega) (by omega), zI_of (n := (P : Int)) (by omega) (by omega), if_pos (by omega)]
      simp only [g1] at fin
      exact fin
    · have hk := s4 (by omega)
      have hkb := kF_bd (T P)
      have p0 : t 3 0 ≠ 0 := by rw [g2 _ _ (by omega), h30]; decide
      have e0 : (if zI (t 3 1) ≤ zI (t 3 3) then True else False) = False := by
        rw [if_neg]
        rw [e1, g1, zI_of (by omega) (by omega), zI_of (by omega) (by omega)]
        omega
      rw [if_neg (by rw [e1, g1, zI_of (n := (L : Int)) (by omega) (by omega), zI_of (n := (P : Int)) (by omega) (by omega)]; omega), xnz_of p0, xck_of (by rw [g1, zI_of (by omega) (by omega)]; omega) (by rw [g1, zI_of (by omega) (by omega)]; omega), if_neg (by rw [g1, zI_of (n := (P : Int)) (by omega) (by omega), tn_cast, eT, c_kindOf (by omega) (by omega), zI_of (by omega) (by omega)]; exact hk)]
      exact fin
theorem c_tnext (h : SC σ T L p) (hn : 4000000 ≤ n) : OK (m_X10_next n σ) (fun τ => SC τ T L (ntF T L p) ∧ sfr3 σ τ) := by
  obtain ⟨h1, h2, h3, h4, h5, h6, h7, h8, h9⟩ := h
  exact c_nextAt h9.2 h1 h2 h5 (enF_spec h6).2.1 h7 h8 hn
end TX1
