/-! the reference's ways and routes -/
section RO5
variable {σ τ : xS} {k r n : Nat} {β : Nat → Int} {D : Nat → Nat → Int} {S m p s : Nat} {x : Int}
/-- the reference's matrix -/
def WM (σ : xS) (N : Nat) (D : Nat → Nat → Int) : Prop := ∀ a c, a < N → c < N → σ 205 (8 * a + c) = D a c
theorem ix8 (a c : Nat) : (8 * (a : Int) + (c : Int)).toNat = 8 * a + c := by omega
theorem r_findsWays (hk : 185 ≤ k ∧ k ≤ 187) (hβ : σ k = β) (hV : V β) (hn : 4000000 ≤ n) : OK (m_X13_findsWays n k σ) (fun τ => WM τ ((β 6).toNat + 1) (fun a c => dsF β (plN a) (plN c)) ∧ ∀ a j, a ≠ 205 → τ a j = σ a j) := by
  have v6 := hV.2.2.2.2.2.2.1
  have v7 := hV.2.2.2.2.2.2.2.1
  have vs := hV.2.2.2.2.2.2.2.2.2.2.2.2.1
  obtain ⟨N, hN⟩ : ∃ N : Nat, (N : Int) = β 6 + 1 := ⟨(β 6).toNat + 1, by omega⟩
  have eN : (β 6).toNat + 1 = N := by omega
  rw [eN]
  unfold m_X13_findsWays
  rw [xck_of (by omega) (by omega), xlet_eq, hβ, tn_lit.2.2.2.2.2.2.1, ← hN]
  refine loop_for N (fun i (t : Int × xS) => t.1 = (i : Int) ∧ (∀ a c, a < i → c < N → t.2 205 (8 * a + c) = bsF β 0 (plN a) (plN c)) ∧ (∀ a j, a ≠ 205 → t.2 a j = σ a j)) ?_ ?_ (by omega) ⟨rfl, fun a c ha => absurd ha (Nat.not_lt_zero _), fun _ _ _ => rfl⟩
  · rintro a ⟨u, τ⟩ ha ⟨h1, h2, h3⟩ rec hrec
    try dsimp only at h1 h2 h3 hrec ⊢
    subst h1
    rw [zI_of (n := (N : Int)) (by omega) (by omega), zI_of (n := (a : Int)) (by omega) (by omega), if_neg (by omega)]
    refine loop_for N (fun j (t : Int × xS) => t.1 = (j : Int) ∧ (∀ a' c, (a' < a ∨ (a' = a ∧ c < j)) → c < N → t.2 205 (8 * a' + c) = bsF β 0 (plN a') (plN c)) ∧ (∀ a j, a ≠ 205 → t.2 a j = σ a j)) ?_ ?_ (by omega) ⟨rfl, fun a' c h hc => h2 a' c (by omega) hc, h3⟩
    · rintro c ⟨u, τ1⟩ hc ⟨g1, g2, g3⟩ rec1 hrec1
      try dsimp only at g1 g2 g3 hrec1 ⊢
      subst g1
      rw [zI_of (n := (c : Int)) (by omega) (by omega), if_neg (by omega), xlet_eq, zI_of (n := 8 * (a : Int) + (c : Int)) (by omega) (by omega), xck_of (by omega) (by omega), xlet_eq, xlet_eq, ix8]
      refine hrec1 _ ⟨by (try dsimp only); omega, fun a' c' h' hc' => ?_, fun a' j hk => ?_⟩
      · try dsimp only
        by_cases e : a' = a ∧ c' = c
        · rw [e.1, e.2, xput_eq]
          show _ = if plN a = plN c then 0 else 1000000
          by_cases e2 : a = c
          · rw [if_pos (by omega), if_pos (by rw [e2])]
          · rw [if_neg (by omega), if_neg (fun h => e2 (plN_inj (by omega) (by omega) h))]
        · rw [xput_ne (by omega)]
          exact g2 a' c' (by omega) hc'
      · try dsimp only
        rw [xput_ne (by omega)]
        exact g3 a' j hk
    · rintro ⟨u, τ1⟩ ⟨g1, g2, g3⟩ rec1
      try dsimp only at g1 g2 g3 ⊢
      subst g1
      rw [zI_of (n := (N : Int)) (by omega) (by omega), if_pos (by omega), xlet_eq]
      exact hrec _ ⟨by (try dsimp only); omega, fun a' c h hc => g2 a' c (by omega) hc, g3⟩
  · rintro ⟨u, τ⟩ ⟨h1, h2, h3⟩ rec
    try dsimp only at h1 h2 h3 ⊢
    subst h1
    rw [zI_of (n := (N : Int)) (by omega) (by omega), if_pos (by omega)]
    refine loop_for (β 7).toNat (fun i (t : Int × xS) => t.1 = (i : Int) ∧ WM t.2 N (fun a c => bsF β i (plN a) (plN c)) ∧ (∀ a j, a ≠ 205 → t.2 a j = σ a j)) ?_ ?_ (by omega) ⟨rfl, h2, h3⟩
    · rintro i ⟨u, τ1⟩ hi ⟨g1, g2, g3⟩ rec1 hrec1
      try dsimp only at g1 g2 g3 hrec1 ⊢
      subst g1
      have hi' : (i : Int) < β 7 := by omega
      have hb1 : τ1 k = β := by rw [← hβ]; funext j; exact g3 k j (by omega)
      have vsi := vs i hi'
      have hB := bsF_b hV i (by omega)
      have w0 := r_street0 (σ := τ1) (k := k) (i := i) (by omega)
      have w1 := r_street1 (σ := τ1) (k := k) (i := i) (by omega)
      have w2 := r_street2 (σ := τ1) (k := k) (i := i) (by omega)
      have w3 := r_street3 (σ := τ1) (k := k) (i := i) (by omega)
      rw [hb1] at w0 w1 w2 w3
      have hbs : bsF β (i + 1) = if stF β i 3 = 1 then bsF β i else fun p q => if (p = plN (stF β i 0).toNat ∧ q = plN (stF β i 1).toNat) ∨ (p = plN (stF β i 1).toNat ∧ q = plN (stF β i 0).toNat) then min (bsF β i (plN (stF β i 0).toNat) (plN (stF β i 1).toNat)) (stF β i 2) else bsF β i p q := rfl
      obtain ⟨A, hA⟩ : ∃ A : Nat, stF β i 0 = (A : Int) := ⟨(stF β i 0).toNat, by omega⟩
      obtain ⟨B, hB2⟩ : ∃ B : Nat, stF β i 1 = (B : Int) := ⟨(stF β i 1).toNat, by omega⟩
      rw [hA, hB2, tn_cast, tn_cast] at hbs
      rw [hA] at w0
      rw [hB2] at w1
      have hAN : A < N := by omega
      have hBN : B < N := by omega
      have hne : A ≠ B := by omega
      have eAB : τ1 205 (8 * A + B) = bsF β i (plN A) (plN B) := g2 A B hAN hBN
      have bAB := (hB (plN A) (plN_lt (by omega))).2 (plN B) (plN_lt (by omega))
      rw [xck_of (by omega) (by omega)]
      simp only [hb1, tn_lit]
      rw [zI_of (n := β 7) (by omega) (by omega), zI_of (n := (i : Int)) (by omega) (by omega), if_neg (by omega), w3, bind_some', xj_eq, zI_of (n := stF β i 3) (by omega) (by omega)]
      by_cases c : stF β i 3 = 1
      · rw [if_pos c]
        simp only [xlet_eq]
        refine hrec1 _ ⟨by (try dsimp only); omega, ?_, g3⟩
        rw [hbs, if_pos c]
        exact g2
      · rw [if_neg c, w0, bind_some', w1, bind_some', w2]
        simp (disch := omega) only [zI_of (n := 8 * (A : Int) + (B : Int)), zI_of (n := 8 * (B : Int) + (A : Int)), xck_of, xlet_eq, bind_some', ix8, eAB, r_lesser]
        refine hrec1 _ ⟨by (try dsimp only); omega, ?_, fun a' j hk => ?_⟩
        · rw [hbs, if_neg c]
          intro a' c' ha' hc'
          try dsimp only
          by_cases e1 : a' = B ∧ c' = A
          · rw [e1.1, e1.2, xput_eq, xput_eq, if_pos (Or.inr ⟨rfl, rfl⟩)]
          · by_cases e2 : a' = A ∧ c' = B
            · rw [e2.1, e2.2, xput_ne (by omega), xput_eq, if_pos (Or.inl ⟨rfl, rfl⟩)]
            · rw [xput_ne (by omega), xput_ne (by omega), if_neg]
              · exact g2 a' c' ha' hc'
              · rintro (⟨y1, y2⟩ | ⟨y1, y2⟩)
                · exact e2 ⟨plN_inj (by omega) (by omega) y1, plN_inj (by omega) (by omega) y2⟩
                · exact e1 ⟨plN_inj (by omega) (by omega) y1, plN_inj (by omega) (by omega) y2⟩
        · try dsimp only
          rw [xput_ne (by omega), xput_ne (by omega)]
          exact g3 a' j hk
    · rintro ⟨u, τ1⟩ ⟨g1, g2, g3⟩ rec1
      try dsimp only at g1 g2 g3 ⊢
      subst g1
      have hb1 : τ1 k = β := by rw [← hβ]; funext j; exact g3 k j (by omega)
      rw [xck_of (by omega) (by omega)]
      simp only [hb1, tn_lit]
      rw [zI_of (n := β 7) (by omega) (by omega), zI_of (n := (((β 7).toNat : Nat) : Int)) (by omega) (by omega), if_pos (by omega)]
      have hB := bsF_b hV (β 7).toNat (Nat.le_refl _)
      have hFb : Fb N (fun a c => bsF β (β 7).toNat (plN a) (plN c)) := fun x hx => ⟨(hB _ (plN_lt (by omega))).1, fun y hy => (hB _ (plN_lt (by omega))).2 _ (plN_lt (by omega))⟩
      refine loop_for N (fun i (t : Int × xS) => t.1 = (i : Int) ∧ WM t.2 N (flN (fun a c => bsF β (β 7).toNat (plN a) (plN c)) i) ∧ (∀ a j, a ≠ 205 → t.2 a j = σ a j)) ?_ ?_ (by omega) ⟨rfl, g2, g3⟩
      · rintro m ⟨u, τ2⟩ hm ⟨f1, f2, f3⟩ rec2 hrec2
        try dsimp only at f1 f2 f3 hrec2 ⊢
        subst f1
        have hE := flN_b hFb m (by omega)
        generalize hEE : flN (fun a c => bsF β (β 7).toNat (plN a) (plN c)) m = E at f2 hE
        have hnext : flN (fun a c => bsF β (β 7).toNat (plN a) (plN c)) (m + 1) = flS E m := by rw [← hEE]; rfl
        rw [hnext] at hrec2
        rw [zI_of (n := (m : Int)) (by omega) (by omega), if_neg (by omega)]
        refine loop_for N (fun j (t : Int × xS) => t.1 = (j : Int) ∧ (∀ p q, p < N → q < N → t.2 205 (8 * p + q) = if p < j then flS E m p q else E p q) ∧ (∀ a j, a ≠ 205 → t.2 a j = σ a j)) ?_ ?_ (by omega) ⟨rfl, fun p q hp hq => by rw [if_neg (by omega)]; exact f2 p q hp hq, f3⟩
        · rintro j ⟨u, τ3⟩ hj ⟨d1, d2, d3⟩ rec3 hrec3
          try dsimp only at d1 d2 d3 hrec3 ⊢
          subst d1
          rw [zI_of (n := (j : Int)) (by omega) (by omega), if_neg (by omega)]
          have hst : ∀ p q, p < N → q < N → τ3 205 (8 * p + q) = if p < j ∨ (p = j ∧ q < 0) then flS E m p q else E p q := fun p q hp hq => by
            rw [d2 p q hp hq]
            by_cases c : p < j
            · rw [if_pos c, if_pos (Or.inl c)]
            · rw [if_neg c, if_neg (by omega)]
          refine loop_for N (fun l (t : Int × xS) => t.1 = (l : Int) ∧ (∀ p q, p < N → q < N → t.2 205 (8 * p + q) = if p < j ∨ (p = j ∧ q < l) then flS E m p q else E p q) ∧ (∀ a j, a ≠ 205 → t.2 a j = σ a j)) ?_ ?_ (by omega) ⟨rfl, fun p q hp hq => hst p q hp hq, d3⟩
          · rintro l ⟨u, τ4⟩ hl ⟨y1, y2, y3⟩ rec4 hrec4
            try dsimp only at y1 y2 y3 hrec4 ⊢
            subst y1
            have t1 := hE m hm
            have t2 := (hE j hj).2 m hm
            have t3 := t1.2 l hl
            have t4 := (hE j hj).2 l hl
            have e1 : τ4 205 (8 * j + m) = E j m := by
              rw [y2 j m hj hm]
              split
              · unfold flS; omega
              · rfl
            have e2 : τ4 205 (8 * m + l) = E m l := by
              rw [y2 m l hm hl]
              split
              · unfold flS; omega
              · rfl
            have e3 : τ4 205 (8 * j + l) = E j l := by rw [y2 j l hj hl, if_neg (by omega)]
            simp (disch := omega) only [zI_of (n := (l : Int)), zI_of (n := 8 * (j : Int) + (l : Int)), zI_of (n := 8 * (j : Int) + (m : Int)), zI_of (n := 8 * (m : Int) + (l : Int)), if_neg, xck_of, xlet_eq, ix8, e1, e2, e3, r_lesser]
            refine hrec4 _ ⟨by (try dsimp only); omega, fun p q hp hq => ?_, fun k' j' hk' => ?_⟩
            · try dsimp only
              by_cases c : p = j ∧ q = l
              · rw [c.1, c.2, xput_eq, if_pos (by omega)]
                rfl
              · rw [xput_ne (by omega), y2 p q hp hq]
                by_cases c2 : p < j ∨ (p = j ∧ q < l)
                · rw [if_pos c2, if_pos (by omega)]
                · rw [if_neg c2, if_neg (by omega)]
            · try dsimp only
              rw [xput_ne (by omega)]
              exact y3 k' j' hk'
          · rintro ⟨u, τ4⟩ ⟨y1, y2, y3⟩ rec4
            try dsimp only at y1 y2 y3 ⊢
            subst y1
            rw [zI_of (n := (N : Int)) (by omega) (by omega), if_pos (by omega), xlet_eq]
            refine hrec3 _ ⟨by (try dsimp only); omega, fun p q hp hq => ?_, y3⟩
            try dsimp only
            rw [y2 p q hp hq]
            by_cases c : p < j + 1
            · rw [if_pos c, if_pos (by omega)]
            · rw [if_neg c, if_neg (by omega)]
        · rintro ⟨u, τ3⟩ ⟨d1, d2, d3⟩ rec3
          try dsimp only at d1 d2 d3 ⊢
          subst d1
          rw [zI_of (n := (N : Int)) (by omega) (by omega), if_pos (by omega), xlet_eq]
          refine hrec2 _ ⟨by (try dsimp only); omega, fun p q hp hq => ?_, d3⟩
          try dsimp only
          rw [d2 p q hp hq, if_pos hp]
      · rintro ⟨u, τ2⟩ ⟨f1, f2, f3⟩ rec2
        try dsimp only at f1 f2 f3 ⊢
        subst f1
        rw [zI_of (n := (N : Int)) (by omega) (by omega), if_pos (by omega)]
        refine OK_some ⟨fun a c ha hc => ?_, f3⟩
        rw [f2 a c ha hc]
        exact ways_same hV hN ha hc
end RO5
