/-! the class alone: the vital street; a first van that carries any number -/
section CLS8
variable {σ τ : xS} {n b : Nat} {β γ δ : Nat → Int} {f e : Int}
/-- the bakery with a street closed -/
abbrev clG (β : Nat → Int) (s : Nat) : Nat → Int := stI β (86 + 4 * s + 3) 1
theorem cg_d {s : Nat} : ∀ i, i ≠ 86 + 4 * s + 3 → clG β s i = β i := fun i hi => stI_ne hi
theorem cg_Ag {s : Nat} (hs : s < 20) : Ag β (clG β s) := fun i hi h => cg_d i (by omega)
theorem cg_st {s t w : Nat} (hw : w < 4) : stF (clG β s) t w = if t = s ∧ w = 3 then 1 else stF β t w := by
  show stI β (86 + 4 * s + 3) 1 (86 + 4 * t + w) = _
  unfold stI
  by_cases q : t = s ∧ w = 3
  · rw [if_pos q, if_pos (by omega)]
  · rw [if_neg q, if_neg (by omega)]
theorem cg_V {s : Nat} (hV : V β) (hs : s < 20) : V (clG β s) := V_street hV (Or.inr rfl) cg_d stI_eq hs
theorem SR_cg {s : Nat} (hB : Bk σ b β e) (hV : V β) (hs : s < 20) : SR σ (b + 39) (clG β s) (s : Int) := by
  obtain ⟨b0, b1, b2, b3, b4, b5, b6, b7, b8, b9, bd, bo, bs, bv, br⟩ := hB
  have vs := hV.2.2.2.2.2.2.2.2.2.2.2.2.1
  have v7 := hV.2.2.2.2.2.2.2.1
  have g7 : clG β s 7 = β 7 := cg_Ag hs 7 (by omega) (by omega)
  refine ⟨by rw [g7]; exact b7, fun t ht => ?_⟩
  rw [g7] at ht
  obtain ⟨h1, h2, h3, h4⟩ := bs t ht
  have := vs t ht
  rw [cg_st (by omega), cg_st (by omega), cg_st (by omega), cg_st (by omega), if_neg (by omega), if_neg (by omega), if_neg (by omega)]
  refine ⟨h1, h2, h3, by rw [h4]; exact this.2.2.2.2, ?_⟩
  rw [h4]
  by_cases q : t = s ∧ 3 = 3
  · rw [if_pos q]
    exact ⟨fun _ => Or.inr (by omega), fun _ => rfl⟩
  · rw [if_neg q]
    constructor
    · exact fun h => Or.inl h
    · rintro (h | h)
      · exact h
      · omega
/-- the vital street among the first: the latest start without it, its number -/
def vtG (β : Nat → Int) : Nat → Int × Int
  | 0 => (ltV β β 0, -1)
  | s + 1 => if stF β s 3 = 1 then vtG β s else if ltV (clG β s) β 0 < (vtG β s).1 then (ltV (clG β s) β 0, (s : Int)) else vtG β s
theorem vg_bd (hV : V β) (h60 : allF β ≤ 60) : ∀ s, s ≤ 20 → (-1 ≤ (vtG β s).1 ∧ (vtG β s).1 ≤ 1439) ∧ (-1 ≤ (vtG β s).2 ∧ (vtG β s).2 < 20)
  | 0, _ => by
    have h := ltV_bd (β := β) (γ := β) (e := 0) (fun _ _ _ => rfl) hV hV h60 (Or.inl rfl)
    exact ⟨h, by show (-1 : Int) ≤ -1; omega, by show (-1 : Int) < 20; omega⟩
  | s + 1, hs => by
    have ih := vg_bd hV h60 s (by omega)
    have h := ltV_bd (β := β) (γ := clG β s) (e := 0) (cg_Ag (by omega)) (cg_V hV (by omega)) hV h60 (Or.inl rfl)
    rw [vtG]
    split
    · exact ih
    · split
      · exact ⟨h, by dsimp only; omega, by dsimp only; omega⟩
      · exact ih
/-- what the vital street is -/
theorem vg_spec : ∀ s, (vtG β s).2 = -1 ∧ (vtG β s).1 = ltV β β 0 ∨ ∃ t : Nat, t < s ∧ (vtG β s).2 = (t : Int) ∧ stF β t 3 ≠ 1 ∧ (vtG β s).1 = ltV (clG β t) β 0 ∧ (vtG β s).1 < ltV β β 0
  | 0 => Or.inl ⟨rfl, rfl⟩
  | s + 1 => by
    have ih := vg_spec s
    rw [vtG]
    by_cases c : stF β s 3 = 1
    · rw [if_pos c]
      rcases ih with h | ⟨t, h1, h2⟩
      · exact Or.inl h
      · exact Or.inr ⟨t, by omega, h2⟩
    · rw [if_neg c]
      by_cases d : ltV (clG β s) β 0 < (vtG β s).1
      · rw [if_pos d]
        refine Or.inr ⟨s, by omega, rfl, c, rfl, ?_⟩
        dsimp only
        rcases ih with h | ⟨t, h1, h2, h3, h4, h5⟩
        · omega
        · omega
      · rw [if_neg d]
        rcases ih with h | ⟨t, h1, h2⟩
        · exact Or.inl h
        · exact Or.inr ⟨t, by omega, h2⟩
theorem vg_none (h : ltV β β 0 = -1) (hV : V β) (h60 : allF β ≤ 60) (s : Nat) (hs : s ≤ 20) : (vtG β s).2 = -1 := by
  have hb := vg_bd hV h60 s hs
  rcases vg_spec (β := β) s with h2 | ⟨t, h1, h2, h3, h4, h5⟩
  · exact h2.1
  · omega
theorem bk_two (v : Int) : bkA v = 6 ∨ bkA v = 60 := by
  unfold bkA
  split <;> omega
/-- what a question may change of the class: the tried night, the roads' ways -/
def vfr (σ τ : xS) : Prop := ∀ a j, ¬ (151 ≤ a ∧ a ≤ 183) → ¬ (bkA (σ 0 3) + 45 ≤ a ∧ a ≤ bkA (σ 0 3) + 53) → τ a j = σ a j
theorem c_vital (h : CB σ β) (hn : 4000000 ≤ n) (h60 : allF β ≤ 60) : OK (m_X12_vitalStreet n σ) (fun x => x.1 = (vtG β (β 7).toNat).2 ∧ CB x.2 β ∧ vfr σ x.2) := by
  have h' := h
  obtain ⟨hB, hV, hR⟩ := h
  have hall := allF_bd hV
  have hb := bkA_lt (σ 0 3)
  have hb2 := bk_two (σ 0 3)
  have v7 := hV.2.2.2.2.2.2.2.1
  have v6 := hV.2.2.2.2.2.2.1
  unfold m_X12_vitalStreet
  rw [c_batchCount hB hV hn, bind_some', if_pos h60, zI_of (n := allF β) (by omega) (by omega), if_neg (by omega)]
  refine OK_xbS (c_latestAsItIs hB hV h60 (Or.inl rfl) hR hn) (fun v s h => ?_)
  obtain ⟨g1, gL, g3⟩ := h
  dsimp only at g1 gL g3
  have hlb := ltV_bd (β := β) (γ := β) (e := 0) (fun _ _ _ => rfl) hV hV h60 (Or.inl rfl)
  have hvb := vg_bd hV h60 (β 7).toNat (by omega)
  have e3 : s 0 3 = σ 0 3 := g3 _ _ (by omega)
  subst g1
  rw [xlet_eq, zI_of (n := ltV β β 0) (by omega) (by omega)]
  by_cases cN : ltV β β 0 = -1
  · rw [if_pos cN]
    exact OK_some ⟨(vg_none cN hV h60 _ (by omega)).symm, CB_same h' e3 (fun a j c1 c2 => g3 a j (by omega)), fun a j c1 _ => g3 a j c1⟩
  · rw [if_neg cN]
    simp only [e3]
    refine loop_for (β 7).toNat (fun l (t : Int × Int × Int × xS) => t.1 = (vtG β l).1 ∧ t.2.1 = (vtG β l).2 ∧ t.2.2.1 = (l : Int) ∧ LG t.2.2.2 β ∧ (∀ a j, ¬ (151 ≤ a ∧ a ≤ 183) → ¬ (bkA (σ 0 3) + 45 ≤ a ∧ a ≤ bkA (σ 0 3) + 53) → t.2.2.2 a j = σ a j)) ?_ ?_ (by omega) ⟨rfl, rfl, rfl, gL, fun a j c1 _ => g3 a j c1⟩
    · rintro l ⟨u, w, x, t⟩ hl ⟨q0, q1, q2, q3, q4⟩ rec hrec
      dsimp only at q0 q1 q2 q3 q4 hrec ⊢
      subst q0 q1 q2
      have hBt : Bk t (bkA (σ 0 3)) β 0 := Bk_low hB hV (fun k j h1 h2 => q4 k j (by omega) (by omega))
      have et3 : t 0 3 = σ 0 3 := q4 _ _ (by omega) (by omega)
      have e74 : t (bkA (σ 0 3) + 39) 4 = β 7 := hBt.2.2.2.2.2.2.2.1
      have e8 : t (bkA (σ 0 3)) 8 = β 6 := hBt.2.2.2.2.2.2.1
      have hbs := hBt.2.2.2.2.2.2.2.2.2.2.2.2.1 l (by omega)
      have vs := hV.2.2.2.2.2.2.2.2.2.2.2.2.1 l (by omega)
      have hvl := vg_bd hV h60 l (by omega)
      have hnx : vtG β (l + 1) = if stF β l 3 = 1 then vtG β l else if ltV (clG β l) β 0 < (vtG β l).1 then (ltV (clG β l) β 0, (l : Int)) else vtG β l := rfl
      simp only [e74]
      rw [zI_of (n := β 7) (by omega) (by omega), zI_of (n := (l : Int)) (by omega) (by omega), if_neg (by omega), xck_of (by omega) (by omega), xj_eq]
      simp only [tn_cast, hbs.2.2.2]
      rw [zI_of (n := stF β l 3) (by omega) (by omega)]
      by_cases c : stF β l 3 = 0
      · rw [if_neg (by omega)] at hnx
        rw [if_pos c]
        simp only [et3, e8]
        have hVc := cg_V (s := l) hV (by omega)
        have hAc := cg_Ag (β := β) (s := l) (by omega)
        have g6 : clG β l 6 = β 6 := hAc 6 (by omega) (by omega)
        have hlb2 := ltV_bd (β := β) (γ := clG β l) (e := 0) hAc hVc hV h60 (Or.inl rfl)
        have hex := c_explore (n := n) hVc (SR_cg (s := l) hBt hV (by omega)) (by omega) hn
        rw [g6] at hex
        refine OK_bind hex (fun s18 h => ?_)
        obtain ⟨x1, x2⟩ := h
        have e318 : s18 0 3 = σ 0 3 := by rw [x2 _ _ (by omega)]; exact et3
        have hB18 : Bk s18 (bkA (σ 0 3)) β 0 := Bk_low hBt hV (fun k j h1 h2 => x2 k j (by omega))
        have hL18 : LG s18 β := LG_same q3 (fun a j h => x2 a j (by omega))
        rw [e318]
        refine OK_xbS (c_latestAt hB18 hV hVc hAc h60 (Or.inl rfl) x1 hL18 hb hn) (fun v20 s19 h => ?_)
        obtain ⟨y1, y2⟩ := h
        dsimp only at y1 y2
        subst y1
        have hL19 : LG s19 β := LG_same hL18 (fun a j h => y2 a j (by omega))
        have hf19 : ∀ a j, ¬ (151 ≤ a ∧ a ≤ 183) → ¬ (bkA (σ 0 3) + 45 ≤ a ∧ a ≤ bkA (σ 0 3) + 53) → s19 a j = σ a j := fun a j c1 c2 => by
          rw [y2 _ _ (by omega), x2 _ _ (by omega)]
          exact q4 a j c1 c2
        rw [zI_of (n := (vtG β l).1) (by omega) (by omega), zI_of (n := ltV (clG β l) β 0) (by omega) (by omega)]
        by_cases d : ltV (clG β l) β 0 < (vtG β l).1
        · rw [if_pos d] at hnx
          rw [if_neg (by omega)]
          simp only [xlet_eq]
          exact hrec _ ⟨by rw [hnx], by rw [hnx], by (try dsimp only); omega, hL19, hf19⟩
        · rw [if_neg d] at hnx
          rw [if_pos (by omega)]
          simp only [xlet_eq]
          exact hrec _ ⟨by rw [hnx], by rw [hnx], by (try dsimp only); omega, hL19, hf19⟩
      · rw [if_pos (by omega)] at hnx
        rw [if_neg c]
        simp only [xlet_eq]
        exact hrec _ ⟨by rw [hnx], by rw [hnx], by (try dsimp only); omega, q3, q4⟩
    · rintro ⟨u, w, x, t⟩ ⟨q0, q1, q2, q3, q4⟩ rec
      dsimp only at q0 q1 q2 q3 q4 ⊢
      subst q0 q1 q2
      have hBt : Bk t (bkA (σ 0 3)) β 0 := Bk_low hB hV (fun k j h1 h2 => q4 k j (by omega) (by omega))
      have et3 : t 0 3 = σ 0 3 := q4 _ _ (by omega) (by omega)
      have e74 : t (bkA (σ 0 3) + 39) 4 = β 7 := hBt.2.2.2.2.2.2.2.1
      have e8 : t (bkA (σ 0 3)) 8 = β 6 := hBt.2.2.2.2.2.2.1
      simp only [e74]
      rw [zI_of (n := β 7) (by omega) (by omega), zI_of (n := (((β 7).toNat : Nat) : Int)) (by omega) (by omega), if_pos (by omega)]
      simp only [et3, e8]
      refine OK_bind (c_explore (n := n) hV (SR_of hBt hV) (by omega) hn) (fun s11 h => ?_)
      obtain ⟨x1, x2⟩ := h
      have hf : ∀ a j, ¬ (151 ≤ a ∧ a ≤ 183) → ¬ (bkA (σ 0 3) + 45 ≤ a ∧ a ≤ bkA (σ 0 3) + 53) → s11 a j = σ a j := fun a j c1 c2 => by
        rw [x2 _ _ (by omega)]
        exact q4 a j c1 c2
      have e311 : s11 0 3 = σ 0 3 := hf _ _ (by omega) (by omega)
      refine OK_some ⟨rfl, ⟨?_, hV, ?_⟩, hf⟩
      · dsimp only
        rw [e311]
        exact Bk_low hBt hV (fun k j h1 h2 => x2 k j (by omega))
      · dsimp only
        rw [e311]
        exact x1
theorem dlF_neg {c : Int} {m k j : Nat} : dlF b c m k j (-1) = - dlF b c m k j 1 := by
  unfold dlF
  repeat' split
  all_goals omega
theorem im_4 : imF β β 4 = β := by
  funext i
  unfold imF
  by_cases c : i < 289
  · rw [if_pos c, if_neg (by omega)]
  · rw [if_neg c]
/-- the latest start with a first van that carries any number -/
theorem c_with4 (h : CB σ β) (hn : 4000000 ≤ n) (h60 : allF β ≤ 60) : OK (m_X12_latestStartWith n 4 σ) (fun x => x.1 = ltV β β 1000000 ∧ ∀ a j, ¬ (151 ≤ a ∧ a ≤ 183) → x.2 a j = σ a j) := by
  have h' := h
  obtain ⟨hB, hV, hR⟩ := h
  have hall := allF_bd hV
  have hb := bkA_lt (σ 0 3)
  have hb6 := bkA_ge (σ 0 3)
  have v5 := hV.2.2.2.2.2.1
  unfold m_X12_latestStartWith
  rw [xj_eq, zI_of (n := 4) (by omega) (by omega), if_neg (by omega), if_pos (by omega), c_batchCount hB hV hn, bind_some', if_pos h60, zI_of (n := allF β) (by omega) (by omega), if_neg (by omega)]
  have h7 : σ (bkA (σ 0 3)) 7 = (((β 5).toNat : Nat) : Int) := by rw [hB.2.2.2.2.2.1]; omega
  refine OK_bind (c_improve (m := (β 5).toNat) (c := 4) (by omega) h7 (by omega) hn) (fun s9 h9 => ?_)
  have dl0 : ∀ k j, ¬ (k = bkA (σ 0 3) + 38 ∧ j = 0) → dlF (bkA (σ 0 3)) 4 (β 5).toNat k j 1 = 0 := fun k j h => by
    unfold dlF
    repeat' split
    all_goals omega
  have e3 : s9 0 3 = σ 0 3 := by rw [h9, dl0 _ _ (by omega)]; omega
  have hB9 : Bk s9 (bkA (s9 0 3)) β 1000000 := by
    rw [e3]
    have := c_improved (ρ := β) (c := 4) (by omega) hB hV h9
    rw [im_4, if_pos rfl] at this
    exact this
  have hR9 : RD s9 (bkA (s9 0 3) + 39) β := by
    rw [e3]
    refine RD_same hR (fun a j c1 c2 => ?_)
    rw [h9, dl0 _ _ (by omega)]
    omega
  refine OK_xbS (c_latestAsItIs hB9 hV h60 (Or.inr rfl) hR9 hn) (fun v s10 h => ?_)
  obtain ⟨g1, -, g3⟩ := h
  dsimp only at g1 g3
  have e3' : s10 0 3 = σ 0 3 := by rw [g3 _ _ (by omega)]; exact e3
  have h7' : s10 (bkA (s10 0 3)) 7 = (((β 5).toNat : Nat) : Int) := by
    rw [e3', g3 _ _ (by omega), h9, h7, dl0 _ _ (by omega)]
    omega
  refine OK_bind (c_improve (m := (β 5).toNat) (c := 4) (by omega) h7' (by omega) hn) (fun s12 h12 => ?_)
  refine OK_some ⟨g1, fun a j h => ?_⟩
  dsimp only
  rw [h12, e3', dlF_neg, g3 _ _ h, h9]
  omega
theorem c_with5 : m_X12_latestStartWith n 5 σ = some (-1, σ) := by
  unfold m_X12_latestStartWith
  rw [xj_eq, zI_of (n := 5) (by omega) (by omega), if_neg (by omega), if_neg (by omega)]
end CLS8
