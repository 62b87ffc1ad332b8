/-! the class reads a text -/
section TX11
variable {T : Nat → Int} {L p : Nat} {σ τ υ : xS} {n b : Nat} {S S' : PSt} {δ δ' : Nat → Int}
abbrev RRn : Type := (Int × Nat) ⊕ (Nat × PSt)
/-- statements one behind another, to the end or a fault -/
def sRun (T : Nat → Int) (L : Nat) : Nat → Nat → PSt → RRn
  | 0, c, S => .inr (c, S)
  | f + 1, c, S => if S.1 < L then (match sAll T L S with
    | .inl g => .inl g
    | .inr S' => sRun T L f (c + 1) S') else .inr (c, S)
theorem run_fuel : ∀ (f f' c : Nat) (S : PSt), PSV T L S → S.1 ≤ L → L - S.1 ≤ f → L - S.1 ≤ f' → sRun T L f c S = sRun T L f' c S := by
  intro f
  induction f with
  | zero =>
    intro f' c S hV hL h1 h2
    cases f' with
    | zero => rfl
    | succ f' =>
      show (Sum.inr (c, S) : RRn) = _
      unfold sRun
      rw [if_neg (by omega)]
  | succ f ih =>
    intro f' c S hV hL h1 h2
    cases f' with
    | zero =>
      show _ = (Sum.inr (c, S) : RRn)
      unfold sRun
      rw [if_neg (by omega)]
    | succ f' =>
      unfold sRun
      by_cases hlt : S.1 < L
      · rw [if_pos hlt, if_pos hlt]
        cases hs : sAll T L S with
        | inl g => rfl
        | inr S' =>
          have h3 := n_all hV hL hs
          exact ih f' (c + 1) S' h3.1 h3.2.2 (by omega) (by omega)
      · rw [if_neg hlt, if_neg hlt]
theorem run_step (hV : PSV T L S) (hL : S.1 ≤ L) (hlt : S.1 < L) {c : Nat} (hs : sAll T L S = .inr S') : sRun T L L c S = sRun T L L (c + 1) S' := by
  have h3 := n_all hV hL hs
  obtain ⟨k, hk⟩ : ∃ k, L = k + 1 := ⟨L - 1, by omega⟩
  have e : sRun T L (k + 1) c S = sRun T L k (c + 1) S' := by
    rw [sRun, if_pos hlt, hs]
  rw [show sRun T L L c S = sRun T L (k + 1) c S from by rw [← hk], e]
  exact run_fuel _ _ _ _ h3.1 h3.2.2 (by omega) (by omega)
theorem run_bad (hlt : S.1 < L) {c : Nat} {f : Int × Nat} (hs : sAll T L S = .inl f) : sRun T L L c S = .inl f := by
  obtain ⟨k, hk⟩ : ∃ k, L = k + 1 := ⟨L - 1, by omega⟩
  have e : sRun T L (k + 1) c S = .inl f := by
    rw [sRun, if_pos hlt, hs]
  rw [show sRun T L L c S = sRun T L (k + 1) c S from by rw [← hk], e]
theorem run_end (h : ¬ S.1 < L) {c : Nat} : sRun T L L c S = .inr (c, S) := by
  cases L with
  | zero => rfl
  | succ k => rw [sRun, if_neg h]
/-- nothing given -/
def δ0 (i : Nat) : Int := if i = 0 then 24 else if i = 1 then 30 else if i = 2 then 1 else if i = 3 then 1 else 0
def S0 (T : Nat → Int) (L : Nat) : PSt := (skF T L 0, δ0, fun _ => (0, 0), fun _ => (0, 0), fun _ => 0)
theorem PSV_S0 : PSV T L (S0 T L) := by
  have d0 : δ0 0 = 24 := rfl
  have d1 : δ0 1 = 30 := rfl
  have d2 : δ0 2 = 1 := rfl
  have d3 : δ0 3 = 1 := rfl
  have hz : ∀ i, 4 ≤ i → δ0 i = 0 := fun i hi => by
    unfold δ0
    rw [if_neg (by omega), if_neg (by omega), if_neg (by omega), if_neg (by omega)]
  have d4 := hz 4 (by omega)
  have d5 := hz 5 (by omega)
  have d6 := hz 6 (by omega)
  have d7 := hz 7 (by omega)
  have d8 := hz 8 (by omega)
  have d9 := hz 9 (by omega)
  refine ⟨⟨by show 10 ≤ δ0 0 ∧ δ0 0 ≤ 41; omega, by show 0 ≤ δ0 1 ∧ δ0 1 ≤ 120; omega, by show 1 ≤ δ0 2 ∧ δ0 2 ≤ 5; omega, by show 1 ≤ δ0 3 ∧ δ0 3 ≤ 5; omega, by show 0 ≤ δ0 4 ∧ δ0 4 ≤ 6; omega, by show 0 ≤ δ0 5 ∧ δ0 5 ≤ 4; omega, by show 0 ≤ δ0 6 ∧ δ0 6 ≤ 7; omega, by show 0 ≤ δ0 7 ∧ δ0 7 ≤ 20; omega, by show 0 ≤ δ0 8 ∧ δ0 8 ≤ 3; omega, by show 0 ≤ δ0 9 ∧ δ0 9 ≤ 24; omega, fun d h => ?_, fun d h => ?_, fun d h => ?_, fun d h => ?_, fun d h => ?_⟩, ⟨by show δ0 0 ≤ 40; omega, by show δ0 2 ≤ 4; omega, by show δ0 3 ≤ 4; omega, fun o h => ?_⟩, fun i h => ?_, fun i h => ?_, fun k _ => Or.inl rfl, fun o _ => hz (70 + 4 * o + 3) (by omega), fun o _ => hz (86 + 4 * o + 3) (by omega), fun o _ => hz (169 + 5 * o + 4) (by omega)⟩
  · have : (d : Int) < δ0 4 := h
    omega
  · have : (d : Int) < δ0 5 := h
    omega
  · have : (d : Int) < δ0 7 := h
    omega
  · have : (d : Int) < δ0 8 := h
    omega
  · have : (d : Int) < δ0 9 := h
    omega
  · have : (o : Int) < δ0 5 := h
    omega
  · have : i < (δ0 4).toNat := h
    omega
  · have : i < (δ0 6).toNat := h
    omega
def pfP (b : Nat) (σ τ : xS) : Prop := ∀ k j, ¬ (2 ≤ k ∧ k ≤ 5) → ¬ (b ≤ k ∧ k < b + 54) → τ k j = σ k j
/-- what the class's parser leaves -/
def PPR (σ : xS) (b : Nat) (T : Nat → Int) (L : Nat) (r : RRn) (v : Int) : Prop := match r with
  | .inl f => v = -1 ∧ CX σ T L f
  | .inr x => v = (x.1 : Int) ∧ PSC σ b T L x.2 ∧ RD σ (b + 39) x.2.2.1
theorem kd_end (h : p ≤ L) : kdF T L p = 0 ↔ ¬ p < L := by
  unfold kdF
  have := kF_bd (T p)
  split <;> omega
theorem c_parse (hT : ∀ q, -128 ≤ T q ∧ T q ≤ 127) (h1 : σ 1 = T) (hL : L ≤ 1600) (hb : 6 ≤ b) (hn : 4000000 ≤ n) : OK (m_X7_parse n (L : Int) b σ) (fun x => PPR x.2 b T L (sRun T L L 0 (S0 T L)) x.1 ∧ pfP b σ x.2) := by
  unfold m_X7_parse
  rw [xlet_eq, xlet_eq, xlet_eq, xlet_eq, xlet_eq, xlet_eq]
  have f1 : ∀ k j, ¬ (k = 2 ∧ 3 ≤ j ∧ j ≤ 8) → (xput (xput (xput (xput (xput (xput σ 2 7 0) 2 8 (-1)) 2 3 0) 2 4 0) 2 5 0) 2 6 0) k j = σ k j := fun k j h => by
    rw [xput_ne (by omega), xput_ne (by omega), xput_ne (by omega), xput_ne (by omega), xput_ne (by omega), xput_ne (by omega)]
  have g1 : (xput (xput (xput (xput (xput (xput σ 2 7 0) 2 8 (-1)) 2 3 0) 2 4 0) 2 5 0) 2 6 0) 2 7 = 0 := by
    rw [xput_ne (by omega), xput_ne (by omega), xput_ne (by omega), xput_ne (by omega), xput_ne (by omega), xput_eq]
  have g2 : (xput (xput (xput (xput (xput (xput σ 2 7 0) 2 8 (-1)) 2 3 0) 2 4 0) 2 5 0) 2 6 0) 2 8 = -1 := by
    rw [xput_ne (by omega), xput_ne (by omega), xput_ne (by omega), xput_ne (by omega), xput_eq]
  have g3 : ∀ k, k < 4 → (xput (xput (xput (xput (xput (xput σ 2 7 0) 2 8 (-1)) 2 3 0) 2 4 0) 2 5 0) 2 6 0) 2 (3 + k) = 0 := fun k hk => by
    have : k = 0 ∨ k = 1 ∨ k = 2 ∨ k = 3 := by omega
    rcases this with rfl | rfl | rfl | rfl
    · rw [xput_ne (by omega), xput_ne (by omega), xput_ne (by omega)]; exact xput_eq
    · rw [xput_ne (by omega), xput_ne (by omega)]; exact xput_eq
    · rw [xput_ne (by omega)]; exact xput_eq
    · exact xput_eq
  generalize xput (xput (xput (xput (xput (xput σ 2 7 0) 2 8 (-1)) 2 3 0) 2 4 0) 2 5 0) 2 6 0 = s6 at f1 g1 g2 g3 ⊢
  -- the clearing
  have hcl : ∃ s7, m_X1_clear b s6 = some s7 ∧ (∀ k j, ¬ (b ≤ k ∧ k < b + 45) → s7 k j = s6 k j) ∧ Bk s7 b δ0 0 := by
    unfold m_X1_clear
    simp only [xlet_eq]
    refine ⟨_, rfl, fun k j h => ?_, ?_⟩
    · rw [xput_ne (by omega), xput_ne (by omega), xput_ne (by omega), xput_ne (by omega), xput_ne (by omega), xput_ne (by omega), xput_ne (by omega), xput_ne (by omega), xput_ne (by omega), xput_ne (by omega)]
    · refine ⟨?_, ?_, ?_, ?_, ?_, ?_, ?_, ?_, ?_, ?_, fun d h => absurd h (by show ¬ (d : Int) < 0; omega), fun d h => absurd h (by show ¬ (d : Int) < 0; omega), fun d h => absurd h (by show ¬ (d : Int) < 0; omega), fun d h => absurd h (by show ¬ (d : Int) < 0; omega), fun d h => absurd h (by show ¬ (d : Int) < 0; omega)⟩
      · rw [xput_ne (by omega), xput_ne (by omega), xput_ne (by omega), xput_ne (by omega), xput_ne (by omega), xput_ne (by omega), xput_ne (by omega), xput_ne (by omega), xput_ne (by omega)]; exact xput_eq
      · rw [xput_ne (by omega), xput_ne (by omega), xput_ne (by omega), xput_ne (by omega), xput_ne (by omega), xput_ne (by omega), xput_ne (by omega), xput_ne (by omega)]; exact xput_eq
      · rw [xput_ne (by omega), xput_ne (by omega), xput_ne (by omega), xput_ne (by omega), xput_ne (by omega), xput_ne (by omega), xput_ne (by omega)]; exact xput_eq
      · rw [xput_ne (by omega), xput_ne (by omega), xput_ne (by omega), xput_ne (by omega), xput_ne (by omega), xput_ne (by omega)]; exact xput_eq
      · rw [xput_ne (by omega), xput_ne (by omega), xput_ne (by omega), xput_ne (by omega), xput_ne (by omega)]; exact xput_eq
      · rw [xput_ne (by omega), xput_ne (by omega), xput_ne (by omega), xput_ne (by omega)]; exact xput_eq
      · rw [xput_ne (by omega), xput_ne (by omega), xput_ne (by omega)]; exact xput_eq
      · rw [xput_ne (by omega), xput_ne (by omega)]; exact xput_eq
      · rw [xput_ne (by omega)]; exact xput_eq
      · exact xput_eq
  obtain ⟨s7, e7, f7, hB⟩ := hcl
  rw [e7, bind_some']
  have c1 : s7 1 = T := by
    funext j
    rw [f7 _ _ (by omega), f1 _ _ (by omega), h1]
  have c2 : s7 2 7 = 0 := by rw [f7 _ _ (by omega)]; exact g1
  have c3 : s7 2 8 = -1 := by rw [f7 _ _ (by omega)]; exact g2
  have c4 : ∀ k, k < 4 → s7 2 (3 + k) = 0 := fun k hk => by rw [f7 _ _ (by omega)]; exact g3 k hk
  have c5 : ∀ k j, ¬ (k = 2 ∧ 3 ≤ j ∧ j ≤ 8) → ¬ (b ≤ k ∧ k < b + 45) → s7 k j = σ k j := fun k j h1 h2 => by rw [f7 k j h2]; exact f1 k j h1
  -- the scanner's beginning
  have hbeg : OK (m_X10_begin n (L : Int) s7) (fun s8 => SC s8 T L (skF T L 0) ∧ ∀ k j, k ≠ 3 → s8 k j = s7 k j) := by
    unfold m_X10_begin
    rw [xlet_eq, xnz_of (show (xput s7 3 0 1) 3 0 ≠ 0 by rw [xput_eq]; decide), xlet_eq, xlet_eq, zmin_of (by omega) (by omega) (by omega) (by omega), show min (L : Int) 1600 = (L : Int) from by omega]
    refine OK_bind (c_nextAt (T := T) (L := L) (q := 0) ?_ ?_ ?_ ?_ (by omega) hL hT hn) (fun s8 h => OK_some ⟨h.1, fun k j hk => ?_⟩)
    · rw [xput_ne (by omega), xput_ne (by omega)]; exact xput_eq
    · funext j
      rw [xput_ne (by omega), xput_ne (by omega), xput_ne (by omega), c1]
    · rw [xput_ne (by omega)]; exact xput_eq
    · exact xput_eq
    · rw [h.2 _ _ (by omega), xput_ne (by omega), xput_ne (by omega), xput_ne (by omega)]
  refine OK_bind hbeg (fun s8 h8 => ?_)
  obtain ⟨hSC, h8⟩ := h8
  have hP0 : PSC s8 b T L (S0 T L) := by
    refine ⟨⟨hSC, by rw [h8 _ _ (by omega)]; exact c2, by rw [h8 _ _ (by omega)]; exact c3⟩, ?_, fun i hi => absurd hi (by show ¬ i < 0; omega), fun i hi => absurd hi (by show ¬ i < 0; omega), fun k hk => by rw [h8 _ _ (by omega)]; exact c4 k hk⟩
    obtain ⟨b0, b1, b2, b3, b4, b5, b6, b7, b8, b9, -, -, -, -, -⟩ := hB
    exact ⟨by rw [h8 _ _ (by omega)]; exact b0, by rw [h8 _ _ (by omega)]; exact b1, by rw [h8 _ _ (by omega)]; exact b2, by rw [h8 _ _ (by omega)]; exact b3, by rw [h8 _ _ (by omega)]; exact b4, by rw [h8 _ _ (by omega)]; exact b5, by rw [h8 _ _ (by omega)]; exact b6, by rw [h8 _ _ (by omega)]; exact b7, by rw [h8 _ _ (by omega)]; exact b8, by rw [h8 _ _ (by omega)]; exact b9, fun d h => absurd h (by show ¬ (d : Int) < 0; omega), fun d h => absurd h (by show ¬ (d : Int) < 0; omega), fun d h => absurd h (by show ¬ (d : Int) < 0; omega), fun d h => absurd h (by show ¬ (d : Int) < 0; omega), fun d h => absurd h (by show ¬ (d : Int) < 0; omega)⟩
  have hF0 : pfB b σ s8 := fun k j h1 h2 => by rw [h8 _ _ (by omega)]; exact c5 k j (by omega) h2
  generalize hR : sRun T L L 0 (S0 T L) = R
  refine loop_ok (fun (t : Int × xS) => pfB b σ t.2 ∧ ((∃ c S, t.1 = (c : Nat) ∧ c ≤ S.1 ∧ PSC t.2 b T L S ∧ PSV T L S ∧ S.1 ≤ L ∧ sRun T L L c S = R) ∨ (∃ f, CX t.2 T L f ∧ R = .inl f))) (fun t => if t.2 2 7 = 0 then L + 1 - (t.2 3 3).toNat else 0) ?_ n (0, s8) ⟨hF0, Or.inl ⟨0, S0 T L, rfl, Nat.zero_le _, hP0, PSV_S0, (skF_spec (Nat.zero_le _)).2.1, hR⟩⟩ (by dsimp only; split <;> omega)
  rintro t ⟨hF, h⟩ rec hrec
  try dsimp only
  rw [xj_eq]
  rcases h with ⟨c, S, hc, hcS, hP, hV, hSL, hrun⟩ | ⟨f, hX, hRf⟩
  · have hG := hP.1
    have hsc := hG.1
    have ek : t.2 3 2 = kdF T L S.1 := hsc.2.2.1
    have e3 : t.2 3 3 = (S.1 : Int) := hsc.2.2.2.1
    have hkb := kd_bd (T := T) (L := L) (p := S.1)
    have hke := kd_end (T := T) hSL
    have e27 : t.2 2 7 = 0 := hG.2.1
    simp only [ek, e27, hc]
    rw [zI_of (n := kdF T L S.1) (by omega) (by omega), show zI 0 = 0 from rfl]
    by_cases hlt : S.1 < L
    · rw [if_neg (by omega), if_pos rfl, zI_of (n := (c : Int)) (by omega) (by omega), if_neg (by omega)]
      refine OK_bind (c_readStatement hP hV hb hn) (fun s21 g => ?_)
      obtain ⟨g1, g2⟩ := g
      rw [xlet_eq]
      have hF2 : pfB b σ s21 := fun k j h1 h2 => by rw [g2 k j h1 h2]; exact hF k j h1 h2
      cases hs : sAll T L S with
      | inl f =>
        rw [hs] at g1
        have gx : CX s21 T L f := g1
        refine hrec _ ⟨hF2, Or.inr ⟨f, gx, ?_⟩⟩ ?_
        · rw [← hrun]
          exact run_bad hlt hs
        · have n0 : s21 2 7 ≠ 0 := by
            rw [gx.2.1]
            have := gx.2.2.2.1
            omega
          show (if s21 2 7 = 0 then _ else 0) < (if t.2 2 7 = 0 then _ else _)
          rw [if_neg n0, if_pos e27, e3]
          omega
      | inr S' =>
        rw [hs] at g1
        have gp : PSC s21 b T L S' := g1
        have h3 := n_all hV hSL hs
        refine hrec _ ⟨hF2, Or.inl ⟨c + 1, S', ?_, by omega, gp, h3.1, h3.2.2, ?_⟩⟩ ?_
        · show (c : Int) + 1 = _
          omega
        · rw [← hrun]
          exact (run_step hV hSL hlt hs).symm
        · show (if s21 2 7 = 0 then L + 1 - (s21 3 3).toNat else 0) < (if t.2 2 7 = 0 then L + 1 - (t.2 3 3).toNat else 0)
          have e3' : s21 3 3 = (S'.1 : Int) := gp.1.1.2.2.2.1
          rw [if_pos e27, e3, e3']
          split <;> omega
    · rw [if_pos (by omega), if_pos rfl]
      have hRe : R = .inr (c, S) := by
        rw [← hrun]
        exact run_end hlt
      obtain ⟨-, hB, hN1, hN2, hg⟩ := hP
      have e8 : t.2 b 8 = S.2.1 6 := hB.2.2.2.2.2.2.1
      rw [e8]
      have hSR : SR t.2 (b + 39) S.2.1 (-1) := ⟨hB.2.2.2.2.2.2.2.1, fun s hs => by
        obtain ⟨i1, i2, i3, i4⟩ := hB.2.2.2.2.2.2.2.2.2.2.2.2.1 s hs
        have z := (hV.1.2.2.2.2.2.2.2.2.2.2.2.2.1 s hs).2.2.2.2
        refine ⟨i1, i2, i3, by rw [i4]; exact z, ?_⟩
        rw [i4]
        omega⟩
      refine OK_bind (c_explore hV.1 hSR (by omega) hn) (fun s17 g => ?_)
      obtain ⟨g1, g2⟩ := g
      refine OK_some ⟨?_, fun k j k1 k2 => by show s17 k j = _; rw [g2 _ _ (by omega)]; exact hF k j k1 (by omega)⟩
      rw [hRe]
      refine ⟨rfl, ⟨?_, ?_, CN_same hN1 (fun j _ => g2 _ _ (by omega)), CN_same hN2 (fun j _ => g2 _ _ (by omega)), fun k hk => by show s17 _ _ = _; rw [g2 _ _ (by omega)]; exact hg k hk⟩, g1⟩
      · exact CS_same (s := .inr S.1) hG (fun k j hk => g2 _ _ (by omega))
      · obtain ⟨b0, b1, b2, b3, b4, b5, b6, b7, b8, b9, bd, bo, bs, bv, br⟩ := hB
        have v4 := hV.1.2.2.2.2.1
        have v5 := hV.1.2.2.2.2.2.1
        have v9 := hV.1.2.2.2.2.2.2.2.2.2.1
        show Bk s17 b S.2.1 0
        exact ⟨by rw [g2 _ _ (by omega)]; exact b0, by rw [g2 _ _ (by omega)]; exact b1, by rw [g2 _ _ (by omega)]; exact b2, by rw [g2 _ _ (by omega)]; exact b3, by rw [g2 _ _ (by omega)]; exact b4, by rw [g2 _ _ (by omega)]; exact b5, by rw [g2 _ _ (by omega)]; exact b6, by rw [g2 _ _ (by omega)]; exact b7, by rw [g2 _ _ (by omega)]; exact b8, by rw [g2 _ _ (by omega)]; exact b9, fun d hd w hw => by rw [g2 _ _ (by omega)]; exact bd d hd w hw, fun o ho w hw => by rw [g2 _ _ (by omega)]; exact bo o ho w hw, fun s hs' => by rw [g2 _ _ (by omega), g2 _ _ (by omega), g2 _ _ (by omega), g2 _ _ (by omega)]; exact bs s hs', fun v hv => by rw [g2 _ _ (by omega)]; exact bv v hv, fun o ho w hw => by rw [g2 _ _ (by omega)]; exact br o ho w hw⟩
  · have e27 : t.2 2 7 = f.1 := hX.2.1
    have b1 := hX.2.2.2.1
    have b2 := hX.2.2.2.2.1
    have fin : OK ((fun (_ : Unit) => if (zI (t.2 2 7)) = 0 then (m_X9_explore n (b + 39) (t.2 b 8) (-1) t.2).bind fun s17 => some (t.1, s17) else some ((-1), t.2)) ()) (fun x => PPR x.2 b T L R x.1 ∧ pfP b σ x.2) := by
      dsimp only
      rw [e27, zI_of (n := f.1) (by omega) (by omega), if_neg (by omega)]
      refine OK_some ⟨?_, fun k j k1 k2 => hF k j k1 (by omega)⟩
      rw [hRf]
      exact ⟨rfl, hX⟩
    by_cases e : zI (t.2 3 2) = 0
    · rw [if_pos e]
      exact fin
    · rw [if_neg e]
      have e' : zI (t.2 2 7) ≠ 0 := by
        rw [e27, zI_of (n := f.1) (by omega) (by omega)]
        omega
      rw [if_neg e']
      exact fin
end TX11
