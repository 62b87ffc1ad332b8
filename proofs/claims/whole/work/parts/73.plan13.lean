/-! the reference's first assignment, late shops, slack, best plan -/
section PLD
variable {P : PP} {σ τ : xS} {k n i : Nat} {m S : Nat} {D : Nat → Nat → Int} {rd du ld : Nat → Int}
theorem r_firstAssignment (h46 : σ 184 46 = (m : Int)) (hm : m < 128) (hn : 4000000 ≤ n) : OK (m_X13_firstAssignment n k σ) (fun τ => AR τ m (fun _ => 0) ∧ ∀ a j, a ≠ 211 → a ≠ 212 → τ a j = σ a j) := by
  unfold m_X13_firstAssignment
  refine loop_for 3 (fun i (t : Int × xS) => t.1 = (i : Int) ∧ (∀ v, v < i → t.2 211 v = 0) ∧ ∀ a j, a ≠ 211 → a ≠ 212 → t.2 a j = σ a j) ?_ ?_ (by omega) ⟨rfl, fun v hv => absurd hv (Nat.not_lt_zero _), fun _ _ _ _ => rfl⟩
  · rintro i ⟨u, t⟩ hi ⟨h1, h2, h3⟩ rec hrec
    dsimp only at h1 h2 h3 hrec ⊢
    subst h1
    rw [zI_of (n := (i : Int)) (by omega) (by omega), if_neg (by omega), xck_of (by omega) (by omega), xlet_eq, xlet_eq, tn_cast]
    refine hrec _ ⟨by (try dsimp only); omega, fun v hv => ?_, fun a j c1 c2 => ?_⟩
    · dsimp only
      by_cases c : v = i
      · rw [c, xput_eq]
      · rw [xput_ne (by omega)]
        exact h2 v (by omega)
    · dsimp only
      rw [xput_ne (by omega)]
      exact h3 a j c1 c2
  · rintro ⟨u, t⟩ ⟨h1, h2, h3⟩ rec
    dsimp only at h1 h2 h3 ⊢
    subst h1
    rw [zI_of (n := ((3 : Nat) : Int)) (by omega) (by omega), if_pos (by omega)]
    refine loop_for 7 (fun i (t' : Int × xS) => t'.1 = (i : Int) ∧ t'.2 211 0 = (b7 (fun s => m.testBit s && decide (s < i)) : Int) ∧ (∀ v, 0 < v → v < 3 → t'.2 211 v = 0) ∧ (∀ s, s < i → t'.2 212 s = if m.testBit s = true then 0 else -1) ∧ ∀ a j, a ≠ 211 → a ≠ 212 → t'.2 a j = σ a j) ?_ ?_ (by omega) ⟨rfl, ?_, fun v hv1 hv2 => h2 v hv2, fun s hs => absurd hs (Nat.not_lt_zero _), h3⟩
    · rintro i ⟨u, y⟩ hi ⟨g1, g2, g3, g4, g5⟩ rec1 hrec1
      dsimp only at g1 g2 g3 g4 g5 hrec1 ⊢
      subst g1
      have e46 : y 184 46 = (m : Int) := by rw [g5 _ _ (by omega) (by omega)]; exact h46
      have f46 : ∀ v, (xput y 212 i v) 184 46 = (m : Int) := fun v => by rw [xput_ne (by omega)]; exact e46
      have f0 : ∀ v, (xput y 212 i v) 211 0 = y 211 0 := fun v => xput_ne (by omega)
      have hbl : b7 (fun s => m.testBit s && decide (s < i)) < 128 := b7_lt _
      rw [zI_of (n := (i : Int)) (by omega) (by omega), if_neg (by omega)]
      simp only [e46]
      rw [has_of hm hi]
      by_cases t1 : m.testBit i = true
      · rw [if_pos t1, if_neg (by omega), xlet_eq, xck_of (by omega) (by omega), xlet_eq, xj_eq, tn_cast]
        simp only [f46]
        rw [has_of hm hi, if_pos t1, if_neg (by omega), xck_of (by omega) (by omega), xck_of (by omega) (by omega), xlet_eq, tn_lit.1, f0, g2, or_of hbl hi]
        simp only [xlet_eq]
        refine hrec1 _ ⟨by (try dsimp only); omega, ?_, fun v hv1 hv2 => ?_, fun s hs => ?_, fun a j c1 c2 => ?_⟩
        · dsimp only
          rw [xput_eq]
          congr 1
          refine bits_eq (or_lt hbl hi) (b7_lt _) fun s hs => ?_
          rw [or_bit, b7_bit _ hs, b7_bit _ hs]
          by_cases d : s = i
          · subst d
            rw [t1, decide_eq_true (show s < s + 1 by omega)]
            simp
          · by_cases d2 : s < i
            · rw [decide_eq_true d2, decide_eq_true (show s < i + 1 by omega), decide_eq_false (show ¬ i = s from fun z => d z.symm), Bool.or_false]
            · rw [decide_eq_false d2, decide_eq_false (show ¬ s < i + 1 by omega), decide_eq_false (show ¬ i = s from fun z => d z.symm), Bool.or_false]
        · dsimp only
          rw [xput_ne (by omega), xput_ne (by omega)]
          exact g3 v hv1 hv2
        · dsimp only
          rw [xput_ne (by omega)]
          by_cases d : s = i
          · rw [d, xput_eq, if_pos t1]
          · rw [xput_ne (by omega)]
            exact g4 s (by omega)
        · dsimp only
          rw [xput_ne (by omega), xput_ne (by omega)]
          exact g5 a j c1 c2
      · rw [if_neg t1, if_pos rfl, xlet_eq, xck_of (by omega) (by omega), xlet_eq, xj_eq, tn_cast]
        simp only [f46]
        rw [has_of hm hi, if_neg t1, if_pos rfl]
        simp only [xlet_eq]
        refine hrec1 _ ⟨by (try dsimp only); omega, ?_, fun v hv1 hv2 => ?_, fun s hs => ?_, fun a j c1 c2 => ?_⟩
        · dsimp only
          rw [f0, g2]
          congr 1
          refine b7_congr fun s hs => ?_
          by_cases d : s = i
          · subst d
            rw [Bool.eq_false_iff.mpr t1, Bool.false_and, Bool.false_and]
          · by_cases d2 : s < i
            · rw [decide_eq_true d2, decide_eq_true (show s < i + 1 by omega)]
            · rw [decide_eq_false d2, decide_eq_false (show ¬ s < i + 1 by omega)]
        · dsimp only
          rw [xput_ne (by omega)]
          exact g3 v hv1 hv2
        · dsimp only
          by_cases d : s = i
          · rw [d, xput_eq, if_neg t1]
          · rw [xput_ne (by omega)]
            exact g4 s (by omega)
        · dsimp only
          rw [xput_ne (by omega)]
          exact g5 a j c1 c2
    · rintro ⟨u, y⟩ ⟨g1, g2, g3, g4, g5⟩ rec1
      dsimp only at g1 g2 g3 g4 g5 ⊢
      subst g1
      rw [zI_of (n := ((7 : Nat) : Int)) (by omega) (by omega), if_pos (by omega)]
      refine OK_some ⟨⟨fun v hv => ?_, g4⟩, g5⟩
      by_cases c : v = 0
      · subst c
        rw [g2]
        congr 1
      · rw [g3 v (by omega) hv, sgA_none (fun s hs ht => by omega)]
        rfl
    · dsimp only
      rw [h2 0 (by omega)]
      have : b7 (fun s => m.testBit s && decide (s < 0)) = 0 := bits_eq (b7_lt _) (by omega) fun s hs => by
        rw [b7_bit _ hs, Nat.zero_testBit, decide_eq_false (Nat.not_lt_zero s), Bool.and_false]
      rw [this]
      rfl
/-- late shops of an assignment, in a night from f; its slack -/
def qLr (P : PP) (f : Int) (i : Nat) : Int := sumTo 7 (fun s => if (qM P).testBit s = true ∧ qU P s < f + qAr P i s (qA P i s) then 1 else 0)
def qSr (P : PP) (i : Nat) : Int := minTo 1439 7 (fun s => if (qM P).testBit s = true then qU P s - qAr P i s (qA P i s) else 1439)
theorem qAr_bd (hP : PPV P) (i s v : Nat) : 0 ≤ qAr P i s v ∧ qAr P i s v ≤ 7500000 := by
  have h1 := dpF_bd (m := qG P i v) (rd := qRd P) (fun s hs => (hP.2.2.2.2.1 s hs).2.2)
  have h2 := arF_bd hP.2.1 hP.1 (qG_lt hP i v) s
  unfold qAr
  omega
/-- the arrivals are there -/
def AV (σ : xS) (P : PP) (i : Nat) : Prop := ∀ s, s < 7 → (qM P).testBit s = true → σ 213 s = qAr P i s (qA P i s)
theorem AV_of (h : ∀ v, v < qV P → ∀ s, s < 7 → (qG P i v).testBit s = true → σ 213 s = qAr P i s v) (hv : qM P = 0 ∨ v1 (qV P) = qV P) : AV σ P i := fun s hs t => by
  have hv1 : v1 (qV P) = qV P := by
    rcases hv with z | z
    · rw [z, Nat.zero_testBit] at t
      exact absurd t (by decide)
    · exact z
  refine h (qA P i s) (by rw [← hv1]; exact qA_lt i s) s hs ?_
  unfold qG
  rw [sgA_bit hs, t]
  simp
theorem r_lateShops (hA : AV σ P i) (hG : GS σ (qS P) rd (qU P) ld) (h46 : σ 184 46 = (qM P : Int)) (hP : PPV P) {f : Int} (hf : 0 ≤ f ∧ f ≤ 1439) (hn : 4000000 ≤ n) : m_X13_lateShops n f σ = some (qLr P f i) := by
  have hm := PP_m hP
  unfold m_X13_lateShops
  refine loop_eq 7 (fun j => (sumTo j (fun s => if (qM P).testBit s = true ∧ qU P s < f + qAr P i s (qA P i s) then 1 else 0), (j : Int))) rfl ?_ ?_ (by omega)
  · intro j hj rec
    have hb := qAr_bd hP i j (qA P i j)
    have hu := (hP.2.2.2.2.1 j hj).1
    dsimp only
    rw [sumTo, zI_of (n := (j : Int)) (by omega) (by omega), if_neg (by omega), xj_eq, xj_eq, h46, has_of hm hj]
    by_cases t : (qM P).testBit j = true
    · have hjS := bit_lt hP.2.2.1 t
      rw [if_pos t, if_neg (by omega), xck_of (by omega) (by omega), xck_of (by omega) (by omega), tn_cast, hA j hj t, (hG j hjS).2.1, zI_of (n := f + qAr P i j (qA P i j)) (by omega) (by omega), zI_of (n := qU P j) (by omega) (by omega)]
      by_cases c : f + qAr P i j (qA P i j) ≤ qU P j
      · rw [if_pos c, if_neg (fun z => by omega)]
        rfl
      · rw [if_neg c, if_pos ⟨t, by omega⟩]
        rfl
    · rw [if_neg t, if_pos rfl, if_neg (fun z => t z.1)]
      rfl
  · intro rec
    dsimp only
    rw [zI_of (n := ((7 : Nat) : Int)) (by omega) (by omega), if_pos (by omega)]
    rfl
theorem r_slack (hA : AV σ P i) (hG : GS σ (qS P) rd (qU P) ld) (h46 : σ 184 46 = (qM P : Int)) (hP : PPV P) (hn : 4000000 ≤ n) : m_X13_slack n σ = some (qSr P i) := by
  have hm := PP_m hP
  unfold m_X13_slack
  refine loop_eq 7 (fun j => (minTo 1439 j (fun s => if (qM P).testBit s = true then qU P s - qAr P i s (qA P i s) else 1439), (j : Int))) rfl ?_ ?_ (by omega)
  · intro j hj rec
    have hb := qAr_bd hP i j (qA P i j)
    have hu := (hP.2.2.2.2.1 j hj).1
    have hM : -8000000 ≤ minTo 1439 j (fun s => if (qM P).testBit s = true then qU P s - qAr P i s (qA P i s) else 1439) ∧ minTo 1439 j (fun s => if (qM P).testBit s = true then qU P s - qAr P i s (qA P i s) else 1439) ≤ 1439 := by
      refine ⟨minTo_ge (by omega) _ fun l hl => ?_, minTo_le _⟩
      have h1 := qAr_bd hP i l (qA P i l)
      have h2 := (hP.2.2.2.2.1 l (by omega)).1
      try dsimp only
      split <;> omega
    dsimp only
    rw [minTo]
    generalize minTo 1439 j (fun s => if (qM P).testBit s = true then qU P s - qAr P i s (qA P i s) else 1439) = M at hM ⊢
    rw [zI_of (n := (j : Int)) (by omega) (by omega), if_neg (by omega), xj_eq, h46, has_of hm hj]
    by_cases t : (qM P).testBit j = true
    · have hjS := bit_lt hP.2.2.1 t
      rw [if_pos t, if_pos t, if_neg (by omega), xck_of (by omega) (by omega), xck_of (by omega) (by omega), tn_cast, hA j hj t, (hG j hjS).2.1, r_lesser (by omega) (by omega) (by omega) (by omega)]
      rfl
    · rw [if_neg t, if_neg t, if_pos rfl, show min M 1439 = M by omega]
      rfl
  · intro rec
    dsimp only
    rw [zI_of (n := ((7 : Nat) : Int)) (by omega) (by omega), if_pos (by omega)]
    rfl
end PLD
