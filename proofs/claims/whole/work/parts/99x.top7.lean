/-! calls: parsing -/
section TOP7
variable {σ τ s x y y0 : xS} {n m b L : Nat} {β γ δ : Nat → Int} {B : Nat → Nat → Int} {p q : Int} {T : Nat → Int}
theorem run_cnt : ∀ (f c : Nat) (S : PSt) (x : Nat × PSt), sRun T L f c S = .inr x → x.1 ≤ c + f
  | 0, c, S, x, h => by
    have e : (Sum.inr (c, S) : RRn) = .inr x := h
    rw [← Sum.inr.inj e]
    exact Nat.le_refl _
  | f + 1, c, S, x, h => by
    rw [sRun] at h
    by_cases d : S.1 < L
    · rw [if_pos d] at h
      cases hs : sAll T L S with
      | inl g =>
        rw [hs] at h
        cases h
      | inr S' =>
        rw [hs] at h
        have := run_cnt f (c + 1) S' x h
        omega
    · rw [if_neg d] at h
      rw [← Sum.inr.inj h]
      exact Nat.le_add_right _ _
theorem q_parseBakery (h : TJ σ β L m B) (hn : 4000000 ≤ n) : CALL (m_X12_parseBakery n σ) (m_X13_parseBakery n) := by
  have h' := h
  obtain ⟨tP, h0β, ⟨i1, i2, i3, i4, i5⟩, ⟨f1, f2, f3, f4, f5⟩, ⟨e1, e2, e3, e4⟩, hF⟩ := h
  have hbb : (bkA (σ 0 3) = 6 ∧ bkA (σ 0 4) = 60) ∨ (bkA (σ 0 3) = 60 ∧ bkA (σ 0 4) = 6) := by
    rcases hF with ⟨z1, z2⟩ | ⟨z1, z2⟩
    · rw [z1, z2]; exact Or.inl ⟨rfl, rfl⟩
    · rw [z1, z2]; exact Or.inr ⟨rfl, rfl⟩
  have hT : ∀ q, -128 ≤ σ 1 q ∧ σ 1 q ≤ 127 := fun q => by rw [f4]; exact f5 q
  unfold m_X12_parseBakery
  rw [f1]
  refine OK_xbS (c_parse (T := σ 1) hT rfl f3 (by omega) hn) fun v s1 hp => ?_
  obtain ⟨hp, hpf⟩ := hp
  dsimp only at hp hpf
  rw [xlet_eq]
  have z3 : ∀ k j, ¬ (2 ≤ k ∧ k ≤ 5) → ¬ (bkA (σ 0 4) ≤ k ∧ k < bkA (σ 0 4) + 54) → ¬ (k = 0 ∧ j = 1) → (xput s1 0 1 0) k j = σ k j := fun k j c1 c2 c3 => by rw [xput_ne c3]; exact hpf k j c1 c2
  have z1 : ∀ k j, k ≠ 0 → (xput s1 0 1 0) k j = s1 k j := fun k j c => xput_ne (by omega)
  have z0 : (xput s1 0 1 0) 0 1 = 0 := xput_eq
  generalize xput s1 0 1 0 = s3 at z3 z1 z0 ⊢
  cases hr : sRun (σ 1) L L 0 (S0 (σ 1) L) with
  | inl f =>
    rw [hr] at hp
    obtain ⟨hv, -, c7, c8, b1, b2, b3⟩ := hp
    rw [hv, zI_of (n := -1) (by omega) (by omega), if_pos rfl]
    refine OK_some ⟨by dsimp only; omega, ?_⟩
    dsimp only
    refine OK_mono (r_parse (σ := s3) (T := σ 1) (L := L) (by funext j; rw [z3 _ _ (by omega) (by omega) (by omega), f4]) (by rw [z3 _ _ (by omega) (by omega) (by omega)]; exact f2) f3 hT hn) fun y hy => ?_
    obtain ⟨hZ, hW, hy9⟩ := hy
    rw [hr] at hZ
    obtain ⟨y1, ⟨-, -, x7, x8, -⟩, y185, y4, y5⟩ := hZ
    have yf : ∀ k j, ¬ (2 ≤ k ∧ k ≤ 5) → ¬ (bkA (σ 0 4) ≤ k ∧ k < bkA (σ 0 4) + 54) → ¬ (k = 0 ∧ j = 1) → ¬ (k = 186 ∨ k = 190 ∨ k = 191) → ¬ (k = 184 ∧ (j = 7 ∨ (9 ≤ j ∧ j ≤ 14) ∨ j = 17)) → y.2 k j = σ k j := fun k j c1 c2 c3 c4 c5 => by
      rw [← z3 k j c1 c2 c3]
      by_cases d5 : k = 185
      · rw [d5]; exact y185 j
      · by_cases d4 : k = 184 ∧ j = 4
        · rw [d4.1, d4.2]; exact y4
        · by_cases d6 : k = 184 ∧ j = 5
          · rw [d6.1, d6.2]; exact y5
          · exact hW k j (by omega) (by omega)
    have yf' : ∀ k j, k < 184 → y.2 k j = s3 k j := fun k j c => hW k j (by omega) (by omega)
    refine ⟨y1, β, 0, m, B, TP_fr tP (fun a j hj => yf a j (by omega) (by omega) (by omega) (by omega) (by omega)), h0β, ⟨i1, i2, ?_, ?_, fun i hi => ⟨fun j hj => ?_, ?_⟩⟩, ⟨?_, hy9, by omega, ?_, fun q => ?_⟩, ⟨?_, ?_, ?_, ?_⟩, ?_⟩
    · rw [yf _ _ (by omega) (by omega) (by omega) (by omega) (by omega)]; exact i3
    · rw [yf _ _ (by omega) (by omega) (by omega) (by omega) (by omega)]; exact i4
    · rw [yf _ _ (by omega) (by omega) (by omega) (by omega) (by omega)]; exact (i5 i hi).1 j hj
    · rw [yf _ _ (by omega) (by omega) (by omega) (by omega) (by omega), yf 116 _ (by omega) (by omega) (by omega) (by omega) (by omega), yf 117 _ (by omega) (by omega) (by omega) (by omega) (by omega)]
      exact (i5 i hi).2
    · rw [yf' _ _ (by omega)]
      exact z0
    · funext q
      rw [yf _ _ (by omega) (by omega) (by omega) (by omega) (by omega), yf 189 _ (by omega) (by omega) (by omega) (by omega) (by omega), f4]
    · rw [yf _ _ (by omega) (by omega) (by omega) (by omega) (by omega)]; exact f5 q
    · rw [yf' _ _ (by omega), z1 _ _ (by omega), c7, x7]
    · rw [yf' _ _ (by omega), z1 _ _ (by omega), c8, x8]
    · rw [x7]; omega
    · rw [x8]; omega
    · unfold FF
      rw [yf _ _ (by omega) (by omega) (by omega) (by omega) (by omega), yf 0 4 (by omega) (by omega) (by omega) (by omega) (by omega)]
      exact hF
  | inr r =>
    have hcnt := run_cnt _ _ _ _ hr
    rw [hr] at hp
    obtain ⟨hv, ⟨⟨-, c7, c8⟩, hBk, -, -, -⟩, hRD⟩ := hp
    have n4 : s3 0 4 = σ 0 4 := z3 _ _ (by omega) (by omega) (by omega)
    have n3 : s3 0 3 = σ 0 3 := z3 _ _ (by omega) (by omega) (by omega)
    rw [hv, zI_of (n := (r.1 : Int)) (by omega) (by omega), if_neg (by omega), xlet_eq, xlet_eq, n4, n3]
    unfold m_X3_forget m_X12_dropNight
    rw [xlet_eq, bind_some', xlet_eq, bind_some']
    have w3 : (xput (xput (xput (xput s3 0 3 (σ 0 4)) 0 4 (σ 0 3)) 114 3 0) 0 8 0) 0 3 = σ 0 4 := by rw [xput_ne (by omega), xput_ne (by omega), xput_ne (by omega), xput_eq]
    have w4 : (xput (xput (xput (xput s3 0 3 (σ 0 4)) 0 4 (σ 0 3)) 114 3 0) 0 8 0) 0 4 = σ 0 3 := by rw [xput_ne (by omega), xput_ne (by omega), xput_eq]
    have w8 : (xput (xput (xput (xput s3 0 3 (σ 0 4)) 0 4 (σ 0 3)) 114 3 0) 0 8 0) 0 8 = 0 := xput_eq
    have w114 : (xput (xput (xput (xput s3 0 3 (σ 0 4)) 0 4 (σ 0 3)) 114 3 0) 0 8 0) 114 3 = 0 := by rw [xput_ne (by omega), xput_eq]
    have wf : ∀ k j, ¬ (k = 0 ∧ (j = 3 ∨ j = 4 ∨ j = 8)) → ¬ (k = 114 ∧ j = 3) → (xput (xput (xput (xput s3 0 3 (σ 0 4)) 0 4 (σ 0 3)) 114 3 0) 0 8 0) k j = s3 k j := fun k j c1 c2 => by rw [xput_ne (by omega), xput_ne (by omega), xput_ne (by omega), xput_ne (by omega)]
    generalize xput (xput (xput (xput s3 0 3 (σ 0 4)) 0 4 (σ 0 3)) 114 3 0) 0 8 0 = x at w3 w4 w8 w114 wf ⊢
    refine OK_some ⟨by dsimp only; omega, ?_⟩
    dsimp only
    refine OK_mono (r_parse (σ := x) (T := σ 1) (L := L) (by funext j; rw [wf _ _ (by omega) (by omega), z3 _ _ (by omega) (by omega) (by omega), f4]) (by rw [wf _ _ (by omega) (by omega), z3 _ _ (by omega) (by omega) (by omega)]; exact f2) f3 hT hn) fun y hy => ?_
    obtain ⟨hZ, hW, hy9⟩ := hy
    rw [hr] at hZ
    obtain ⟨y1, x7, x8, hPV, y4, y5, y185⟩ := hZ
    have hVd := hPV.1
    have h0d := hPV.2.1
    have eqB : Eq289 r.2.2.1 (y.2 185) := fun i hi => by rw [y185 i, if_pos hi]
    have hVy : V (y.2 185) := V_congr hVd eqB
    have yx : ∀ k j, k < 184 → y.2 k j = x k j := fun k j c => hW k j (by omega) (by omega)
    have yb : ∀ k j, bkA (σ 0 4) ≤ k → k < bkA (σ 0 4) + 54 → y.2 k j = s1 k j := fun k j c1 c2 => by rw [yx k j (by omega), wf k j (by omega) (by omega), z1 k j (by omega)]
    have y03 : y.2 0 3 = σ 0 4 := by rw [yx _ _ (by omega)]; exact w3
    have y08 : y.2 0 8 = 0 := by rw [yx _ _ (by omega)]; exact w8
    refine ⟨y1, y.2 185, 0, 0, fun _ => y.2 185, ⟨⟨?_, rfl, hVy, Or.inl ⟨y08, y5⟩⟩, ?_, ?_, ?_⟩, V0_congr hVd h0d eqB, ⟨by omega, rfl, ?_, y4, fun i hi => absurd hi (Nat.not_lt_zero _)⟩, ⟨?_, hy9, by omega, ?_, fun q => ?_⟩, ⟨?_, ?_, ?_, ?_⟩, ?_⟩
    · rw [y03]
      exact Bk_congr (Bk_same hBk hVd (fun k j c1 c2 => yb k j c1 c2)) hVd eqB
    · rw [y03]
      exact RD_same (RD_congr hRD hVd (fun i hi _ => eqB i (by omega))) (fun a j c1 c2 => yb a j (by omega) (by omega))
    · intro h8
      rw [y08] at h8
      exact absurd h8 (by omega)
    · rw [hW _ _ (by omega) (by omega), wf _ _ (by omega) (by omega), z3 _ _ (by omega) (by omega) (by omega)]
      exact tP.2.2.2
    · rw [yx _ _ (by omega)]
      exact w114
    · rw [yx _ _ (by omega), wf _ _ (by omega) (by omega)]
      exact z0
    · funext q
      rw [yx _ _ (by omega), wf _ _ (by omega) (by omega), z3 _ _ (by omega) (by omega) (by omega), hW 189 _ (by omega) (by omega), wf _ _ (by omega) (by omega), z3 _ _ (by omega) (by omega) (by omega), f4]
    · rw [hW 189 _ (by omega) (by omega), wf _ _ (by omega) (by omega), z3 _ _ (by omega) (by omega) (by omega)]
      exact f5 q
    · rw [yx _ _ (by omega), wf _ _ (by omega) (by omega), z1 _ _ (by omega), c7, x7]
    · rw [yx _ _ (by omega), wf _ _ (by omega) (by omega), z1 _ _ (by omega), c8, x8]
    · rw [x7]; omega
    · rw [x8]; omega
    · unfold FF
      rw [y03, yx 0 4 (by omega), w4]
      rcases hF with ⟨q1, q2⟩ | ⟨q1, q2⟩
      · exact Or.inr ⟨q2, q1⟩
      · exact Or.inl ⟨q2, q1⟩
end TOP7
