/-! the reference reads a text -/
section TX29
variable {T : Nat → Int} {L p : Nat} {σ τ υ : xS} {n : Nat} {S : PSt}
def rtZ (σ τ : xS) (T : Nat → Int) (L : Nat) (r : RRn) (v : Int) : Prop := match r with
  | .inl f => v = -1 ∧ rtX τ T L f ∧ (∀ i, τ 185 i = σ 185 i) ∧ τ 184 4 = σ 184 4 ∧ τ 184 5 = σ 184 5
  | .inr x => v = (x.1 : Int) ∧ τ 184 12 = 0 ∧ τ 184 13 = -1 ∧ PSV T L x.2 ∧ τ 184 4 = 0 ∧ τ 184 5 = 0 ∧ ∀ i, τ 185 i = if i < 289 then x.2.2.1 i else σ 185 i
def rtW (σ τ : xS) : Prop := ∀ k j, ¬ (k = 185 ∨ k = 186 ∨ k = 190 ∨ k = 191) → ¬ (k = 184 ∧ (j = 4 ∨ j = 5 ∨ j = 7 ∨ (9 ≤ j ∧ j ≤ 14) ∨ j = 17)) → τ k j = σ k j
theorem r_parse (h1 : σ 189 = T) (h2 : σ 184 9 = (L : Int)) (hL : L ≤ 1600) (hT : ∀ q, -128 ≤ T q ∧ T q ≤ 127) (hn : 4000000 ≤ n) : OK (m_X13_parseBakery n σ) (fun x => rtZ σ x.2 T L (sRun T L L 0 (S0 T L)) x.1 ∧ rtW σ x.2 ∧ x.2 184 9 = 0) := by
  unfold m_X13_parseBakery
  have e9 : (xput σ 184 7 0) 184 9 = (L : Int) := by rw [xput_ne (by omega)]; exact h2
  rw [xlet_eq, e9, xlet_eq, xlet_eq, xlet_eq, xlet_eq, xlet_eq, xlet_eq]
  have f1 : ∀ k j, ¬ (k = 184 ∧ (j = 7 ∨ (9 ≤ j ∧ j ≤ 14) ∨ j = 17)) → (xput (xput (xput (xput (xput (xput (xput σ 184 7 0) 184 10 (L : Int)) 184 9 0) 184 11 0) 184 12 0) 184 13 (-1)) 184 17 0) k j = σ k j := fun k j h => by
    rw [xput_ne (by omega), xput_ne (by omega), xput_ne (by omega), xput_ne (by omega), xput_ne (by omega), xput_ne (by omega), xput_ne (by omega)]
  have g10 : (xput (xput (xput (xput (xput (xput (xput σ 184 7 0) 184 10 (L : Int)) 184 9 0) 184 11 0) 184 12 0) 184 13 (-1)) 184 17 0) 184 10 = (L : Int) := by
    rw [xput_ne (by omega), xput_ne (by omega), xput_ne (by omega), xput_ne (by omega), xput_ne (by omega), xput_eq]
  have g11 : (xput (xput (xput (xput (xput (xput (xput σ 184 7 0) 184 10 (L : Int)) 184 9 0) 184 11 0) 184 12 0) 184 13 (-1)) 184 17 0) 184 11 = ((0 : Nat) : Int) := by
    rw [xput_ne (by omega), xput_ne (by omega), xput_ne (by omega), xput_eq]; rfl
  have g12 : (xput (xput (xput (xput (xput (xput (xput σ 184 7 0) 184 10 (L : Int)) 184 9 0) 184 11 0) 184 12 0) 184 13 (-1)) 184 17 0) 184 12 = 0 := by
    rw [xput_ne (by omega), xput_ne (by omega), xput_eq]
  have g13 : (xput (xput (xput (xput (xput (xput (xput σ 184 7 0) 184 10 (L : Int)) 184 9 0) 184 11 0) 184 12 0) 184 13 (-1)) 184 17 0) 184 13 = -1 := by
    rw [xput_ne (by omega), xput_eq]
  have g9 : (xput (xput (xput (xput (xput (xput (xput σ 184 7 0) 184 10 (L : Int)) 184 9 0) 184 11 0) 184 12 0) 184 13 (-1)) 184 17 0) 184 9 = 0 := by
    rw [xput_ne (by omega), xput_ne (by omega), xput_ne (by omega), xput_ne (by omega), xput_eq]
  have g17 : (xput (xput (xput (xput (xput (xput (xput σ 184 7 0) 184 10 (L : Int)) 184 9 0) 184 11 0) 184 12 0) 184 13 (-1)) 184 17 0) 184 17 = 0 := xput_eq
  generalize xput (xput (xput (xput (xput (xput (xput σ 184 7 0) 184 10 (L : Int)) 184 9 0) 184 11 0) 184 12 0) 184 13 (-1)) 184 17 0 = s7 at f1 g9 g10 g11 g12 g13 g17 ⊢
  refine OK_bind (r_empties hn) (fun s8 h8 => ?_)
  obtain ⟨k1, k2⟩ := h8
  have hB : rtB s8 T L := ⟨by funext j; rw [k2 _ _ (by omega), f1 _ _ (by omega), h1], by rw [k2 _ _ (by omega)]; exact g10, hL, hT⟩
  refine OK_bind (r_skips hB (p := 0) (by rw [k2 _ _ (by omega)]; exact g11) (Nat.zero_le _) hn) (fun s9 h9 => ?_)
  obtain ⟨m1, m2⟩ := h9
  have hP : rtP s9 T L (S0 T L) := by
    refine ⟨⟨rtB_f hB (rtf_1 m2), m1, (skF_spec (Nat.zero_le _)).2.1, ?_, ?_⟩, fun i hi => ?_, fun i hi => absurd hi (by show ¬ i < 0; omega), fun i hi => absurd hi (by show ¬ i < 0; omega), ?_⟩
    · rw [m2 _ _ (by omega), k2 _ _ (by omega)]; exact g12
    · rw [m2 _ _ (by omega), k2 _ _ (by omega)]; exact g13
    · rw [m2 _ _ (by omega)]; exact k1 i hi
    · rw [m2 _ _ (by omega), k2 _ _ (by omega), g17]; rfl
  have hW : rtW σ s9 := fun k j c1 c2 => by rw [m2 _ _ (by omega), k2 _ _ (by omega)]; exact f1 k j (by omega)
  have h9z : s9 184 9 = 0 := by rw [m2 _ _ (by omega), k2 _ _ (by omega)]; exact g9
  have h185 : ∀ j, s9 185 j = σ 185 j := fun j => by rw [m2 _ _ (by omega), k2 _ _ (by omega)]; exact f1 _ _ (by omega)
  simp only [xj_eq]
  refine r_pLoop (G := fun t10 => if (m_X13_fine t10.2) = 0 then some ((-1), t10.2) else (m_X13_copies n 186 185 t10.2).bind fun s18 => xlet (xput s18 184 4 0) fun s19 => xlet (xput s19 184 5 0) fun s20 => some (t10.1, s20)) hP hn (fun c τ hF hR => ?_)
  have hW2 : rtW σ τ := fun k j c1 c2 => by rw [hF k j (by omega) (by omega)]; exact hW k j c1 c2
  have h9t : τ 184 9 = 0 := by rw [hF _ _ (by omega) (by omega)]; exact h9z
  have h185t : ∀ j, τ 185 j = σ 185 j := fun j => by rw [hF _ _ (by omega) (by omega)]; exact h185 j
  dsimp only
  cases hr : sRun T L L 0 (S0 T L) with
  | inl f =>
    rw [hr] at hR
    have hX : rtX τ T L f := hR
    rw [r_fineX hX, if_pos rfl]
    exact OK_some ⟨⟨rfl, hX, h185t, by show τ 184 4 = _; rw [hF _ _ (by omega) (by omega), m2 _ _ (by omega), k2 _ _ (by omega)]; exact f1 _ _ (by omega), by show τ 184 5 = _; rw [hF _ _ (by omega) (by omega), m2 _ _ (by omega), k2 _ _ (by omega)]; exact f1 _ _ (by omega)⟩, hW2, h9t⟩
  | inr x =>
    rw [hr] at hR
    obtain ⟨hc, hPx, hV⟩ := hR
    rw [r_fineG hPx.1, if_neg (by omega)]
    refine OK_bind (r_copies (k1 := 186) (k2 := 185) (by omega) hn) (fun s18 h18 => ?_)
    obtain ⟨d1, d2⟩ := h18
    rw [xlet_eq, xlet_eq]
    refine OK_some ⟨⟨hc, ?_, ?_, hV, ?_, ?_, fun i => ?_⟩, fun k j c1 c2 => ?_, ?_⟩
    · show xput (xput s18 184 4 0) 184 5 0 184 12 = 0
      rw [xput_ne (by omega), xput_ne (by omega), d2 _ _ (by omega)]; exact hPx.1.2.2.2.1
    · show xput (xput s18 184 4 0) 184 5 0 184 13 = -1
      rw [xput_ne (by omega), xput_ne (by omega), d2 _ _ (by omega)]; exact hPx.1.2.2.2.2
    · show xput (xput s18 184 4 0) 184 5 0 184 4 = 0
      rw [xput_ne (by omega), xput_eq]
    · show xput (xput s18 184 4 0) 184 5 0 184 5 = 0
      exact xput_eq
    · show xput (xput s18 184 4 0) 184 5 0 185 i = _
      rw [xput_ne (by omega), xput_ne (by omega), d1 i]
      by_cases e : i < 289
      · rw [if_pos e, if_pos e]
        exact hPx.2.1 i e
      · rw [if_neg e, if_neg e]
        exact h185t i
    · show xput (xput s18 184 4 0) 184 5 0 k j = _
      rw [xput_ne (by omega), xput_ne (by omega), d2 _ _ (by omega)]
      exact hW2 k j c1 c2
    · show xput (xput s18 184 4 0) 184 5 0 184 9 = 0
      rw [xput_ne (by omega), xput_ne (by omega), d2 _ _ (by omega)]; exact h9t
end TX29
