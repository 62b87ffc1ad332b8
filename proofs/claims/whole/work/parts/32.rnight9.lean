/-! the reference's night: the beginning -/
section RNC
variable {σ : xS} {k n : Nat} {β : Nat → Int} {u t : Int} {N : Nat → Nat → Int} {M : NS}
theorem r_clears (hk : 185 ≤ k ∧ k ≤ 187) (hβ : σ k = β) (hV : V β) (h60 : allF β ≤ 60) (hn : 4000000 ≤ n) :
    OK (m_X13_clears n k σ) (fun σ' => RX (xput σ' 184 34 0) β (M0 (prm β)) (-1) 0 ∧ rfr σ σ') := by
  have hP := prm_V hV h60
  have hb60 : (bl β).length ≤ 60 := hP.2.2.1
  have v5 := hV.2.2.2.2.2.1
  unfold m_X13_clears
  refine OK_bind (r_findsBatches (k := k) (by rw [hβ]; exact hV) hn (by omega) (by omega) (by rw [hβ]; exact h60)) (fun s1 h1 => ?_)
  rw [hβ] at h1
  obtain ⟨f1, f2, f3⟩ := h1
  refine loop_for (bl β).length (fun i (s : Int × xS) => s.1 = (i : Int) ∧ (∀ b, b < i → s.2 193 b = 0 ∧ s.2 196 b = -1 ∧ ∀ r, r < 6 → s.2 195 (6 * b + r) = -1) ∧ (∀ a j, a ≠ 193 → a ≠ 195 → a ≠ 196 → s.2 a j = s1 a j)) ?_ ?_ (by omega) ⟨rfl, fun b hb => absurd hb (Nat.not_lt_zero _), fun _ _ _ _ _ => rfl⟩
  · rintro i ⟨x1, τ⟩ hi ⟨g1, g2, g3⟩ rec hrec
    dsimp only at g1 g2 g3 ⊢
    subst g1
    have t19 : τ 184 19 = ((bl β).length : Int) := by rw [g3 _ _ (by omega) (by omega) (by omega)]; exact f1
    simp (disch := omega) only [zI_of (n := (i : Int)), zI_of (n := ((bl β).length : Int)), t19, if_neg, xck_of, tn_cast, xlet_eq]
    refine loop_for 6 (fun j (s : Int × xS) => s.1 = (j : Int) ∧ (∀ r, r < j → s.2 195 (6 * i + r) = -1) ∧ (∀ a x, ¬ (a = 195 ∧ 6 * i ≤ x) → s.2 a x = (xput (xput τ 193 i 0) 196 i (-1)) a x)) ?_ ?_ (by omega) ⟨rfl, fun b hb => absurd hb (Nat.not_lt_zero _), fun _ _ _ => rfl⟩
    · rintro j ⟨x2, τ2⟩ hj ⟨w1, w2, w3⟩ rec2 hrec2
      dsimp only at w1 w2 w3 ⊢
      subst w1
      simp (disch := omega) only [zI_of (n := (j : Int)), zI_of (n := 6 * (i : Int) + (j : Int)), if_neg, xck_of, tn_cast, xlet_eq]
      rw [show ((6 * (i : Int) + (j : Int)).toNat) = 6 * i + j by omega]
      refine hrec2 _ ⟨by dsimp only; omega, fun r hr => ?_, fun a x hax => ?_⟩
      · dsimp only
        by_cases c : r = j
        · rw [c, xput_eq]
        · rw [xput_ne (by omega)]; exact w2 r (by omega)
      · dsimp only
        rw [xput_ne (by omega)]
        exact w3 a x hax
    · rintro ⟨x2, τ2⟩ ⟨w1, w2, w3⟩ rec2
      dsimp only at w1 w2 w3 ⊢
      subst w1
      simp (disch := omega) only [zI_of (n := ((6 : Nat) : Int)), if_pos, xlet_eq]
      refine hrec _ ⟨by dsimp only; omega, fun b hb => ?_, fun a j h1 h2 h3 => ?_⟩
      · dsimp only
        by_cases c : b = i
        · subst c
          refine ⟨?_, ?_, w2⟩
          · rw [w3 _ _ (by omega), xput_ne (by omega), xput_eq]
          · rw [w3 _ _ (by omega), xput_eq]
        · obtain ⟨z1, z2, z3⟩ := g2 b (by omega)
          refine ⟨?_, ?_, fun r hr => ?_⟩
          · rw [w3 _ _ (by omega), xput_ne (by omega), xput_ne (by omega)]; exact z1
          · rw [w3 _ _ (by omega), xput_ne (by omega), xput_ne (by omega)]; exact z2
          · rw [w3 _ _ (by omega), xput_ne (by omega), xput_ne (by omega)]; exact z3 r hr
      · dsimp only
        rw [w3 _ _ (by omega), xput_ne (by omega), xput_ne (by omega)]
        exact g3 a j h1 h2 h3
  · rintro ⟨x1, τ⟩ ⟨g1, g2, g3⟩ rec
    dsimp only at g1 g2 g3 ⊢
    subst g1
    have t19 : τ 184 19 = ((bl β).length : Int) := by rw [g3 _ _ (by omega) (by omega) (by omega)]; exact f1
    simp (disch := omega) only [zI_of (n := ((bl β).length : Int)), t19, if_pos]
    refine loop_for 4 (fun j (s : Int × xS) => s.1 = (j : Int) ∧ (∀ o, o < j → s.2 201 o = ovF β o 1 ∧ s.2 202 o = -1 ∧ s.2 204 o = 0) ∧ (∀ a x, a ≠ 201 → a ≠ 202 → a ≠ 204 → s.2 a x = τ a x)) ?_ ?_ (by omega) ⟨rfl, fun b hb => absurd hb (Nat.not_lt_zero _), fun _ _ _ _ _ => rfl⟩
    · rintro j ⟨x2, τ2⟩ hj ⟨w1, w2, w3⟩ rec2 hrec2
      dsimp only at w1 w2 w3 ⊢
      subst w1
      have tk : τ2 k = β := by
        rw [← hβ]
        funext x
        rw [w3 _ _ (by omega) (by omega) (by omega), g3 _ _ (by omega) (by omega) (by omega), f3 _ _ (by omega) (by omega)]
      have ho := r_oven1 (σ := τ2) (k := k) (i := j) (by omega)
      rw [tk] at ho
      simp (disch := omega) only [zI_of (n := (j : Int)), if_neg, xck_of, tn_cast, xlet_eq, ho, bind_some']
      refine hrec2 _ ⟨by dsimp only; omega, fun o ho => ?_, fun a x h1 h2 h3 => ?_⟩
      · dsimp only
        by_cases c : o = j
        · subst c
          simp (disch := omega) only [xput_eq, xput_ne]
          exact ⟨trivial, trivial, trivial⟩
        · simp (disch := omega) only [xput_ne]
          exact w2 o (by omega)
      · dsimp only
        rw [xput_ne (by omega), xput_ne (by omega), xput_ne (by omega)]
        exact w3 a x h1 h2 h3
    · rintro ⟨x2, τ2⟩ ⟨w1, w2, w3⟩ rec2
      dsimp only at w1 w2 w3 ⊢
      subst w1
      simp (disch := omega) only [zI_of (n := ((4 : Nat) : Int)), if_pos, xlet_eq]
      have e5 : ∀ (N : Nat → Nat → Int) b, (∀ r, r ≤ 4 → N r b = -1) → eEn (prm β) N (-1) b = 0 := fun N b h => by
        unfold eEn
        rw [h 2 (by omega), h 3 (by omega), if_neg (by omega), if_neg (by omega)]
      have eM : ∀ r b, r ≠ 5 → r ≠ 7 → (M0 (prm β)).1 r b = -1 := fun r b h1 h2 => by
        show (if r = 5 then _ else if r = 7 then (0 : Int) else -1) = -1
        rw [if_neg h1, if_neg h2]
      have eM5 : ∀ b, (M0 (prm β)).1 5 b = pO (prm β) b 1 := fun b => rfl
      have eM7 : ∀ b, (M0 (prm β)).1 7 b = 0 := fun b => rfl
      have em2 : (M0 (prm β)).2 = ([], [], 0) := rfl
      refine OK_some ⟨⟨⟨?_, fun b hb => ?_, fun o ho => ?_, ?_, ?_⟩, ?_, ?_, ?_, ?_, ?_⟩, fun a j haj => ?_⟩
      · simp (disch := omega) only [xput_ne]
        rw [w3 _ _ (by omega) (by omega) (by omega)]
        exact t19
      · obtain ⟨z1, z2, z3⟩ := g2 b hb
        have hf2 := f2 b hb
        have eph : phF (prm β) (M0 (prm β)).1 (-1) b = 0 := by
          unfold phF
          rw [eM 0 b (by omega) (by omega), eM 1 b (by omega) (by omega), eM 2 b (by omega) (by omega), eM 3 b (by omega) (by omega), if_neg (by omega), if_neg (by omega), if_neg (by omega), if_neg (by omega)]
        have esg : ∀ T, sgF (-1) T (-1) = -1 := fun T => by unfold sgF; rw [if_neg (by omega)]
        unfold RB
        simp (disch := omega) only [xput_ne, eph, eM, esg]
        simp (disch := omega) only [w3, z1, z2, z3, g3, hf2]
        exact ⟨trivial, trivial, fun h => by omega, fun h => by omega, fun h => by omega, fun h => by omega, fun h => by omega, trivial, trivial, trivial, trivial, trivial, trivial, trivial, fun h => absurd rfl h, fun h => absurd rfl h⟩
      · obtain ⟨z1, z2, z3⟩ := w2 o (by omega)
        unfold RO
        simp (disch := omega) only [xput_ne, eM, z1, z2, z3, eM5, eM7]
        exact ⟨fun _ => ⟨trivial, rfl⟩, fun h => by omega, trivial⟩
      · refine ⟨?_, fun i hi => absurd hi (by rw [em2]; exact Nat.not_lt_zero _)⟩
        simp (disch := omega) only [xput_ne, xput_eq, em2]
        rfl
      · refine ⟨?_, fun i hi => absurd hi (by rw [em2]; exact Nat.not_lt_zero _)⟩
        simp (disch := omega) only [xput_ne, xput_eq, em2]
        rfl
      · exact xput_eq
      · simp (disch := omega) only [xput_ne, xput_eq]
        have h1 := endE_nn (P := prm β) (N := (M0 (prm β)).1) (u := -1) (bl β).length
        have h2 := endE_le (P := prm β) (N := (M0 (prm β)).1) (u := -1) (x := 0) (by omega) (bl β).length (fun b hb => by rw [e5 _ b (fun r hr => eM r b (by omega) (by omega))]; omega)
        omega
      · simp (disch := omega) only [xput_ne, xput_eq]
        unfold wmF
        rw [sumTo_zero (fun b _ => by rw [eM 0 b (by omega) (by omega), if_neg (by omega)])]
      · simp (disch := omega) only [xput_ne, xput_eq]
        unfold wbF
        rw [sumTo_zero (fun b _ => by rw [eM 1 b (by omega) (by omega), if_neg (by omega)])]
      · simp (disch := omega) only [xput_ne, xput_eq]
        unfold woF
        rw [sumTo_zero (fun b _ => by rw [eM 2 b (by omega) (by omega), eM 3 b (by omega) (by omega), if_neg (by omega), if_neg (by omega)])]
      · simp (disch := omega) only [xput_ne]
        rw [w3 _ _ (by omega) (by omega) (by omega), g3 _ _ (by omega) (by omega) (by omega)]
        exact f3 a j (by omega) (by omega)
end RNC
