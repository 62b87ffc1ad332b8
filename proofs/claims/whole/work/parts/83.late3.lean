/-! the latest start with one thing more: both -/
section LA3
variable {σ τ : xS} {k n i b : Nat} {β γ : Nat → Int} {e f : Int}
theorem r_copies {k1 k2 : Nat} (hne : k1 ≠ k2) (hn : 4000000 ≤ n) : OK (m_X13_copies n k1 k2 σ) (fun τ => (∀ i, τ k2 i = if i < 289 then σ k1 i else σ k2 i) ∧ ∀ a j, a ≠ k2 → τ a j = σ a j) := by
  unfold m_X13_copies
  refine loop_for 289 (fun i (t : Int × xS) => t.1 = (i : Int) ∧ (∀ j, t.2 k2 j = if j < i then σ k1 j else σ k2 j) ∧ ∀ a j, a ≠ k2 → t.2 a j = σ a j) ?_ ?_ (by omega) ⟨rfl, fun j => (if_neg (Nat.not_lt_zero j)).symm, fun _ _ _ => rfl⟩
  · rintro i ⟨u, t⟩ hi ⟨g1, g2, g3⟩ rec hrec
    dsimp only at g1 g2 g3 hrec ⊢
    subst g1
    rw [zI_of (n := (i : Int)) (by omega) (by omega), if_neg (by omega), xck_of (by omega) (by omega), xck_of (by omega) (by omega), xlet_eq, xlet_eq, tn_cast]
    refine hrec _ ⟨by (try dsimp only); omega, fun j => ?_, fun a j h => ?_⟩
    · dsimp only
      by_cases c : j = i
      · rw [c, xput_eq, if_pos (by omega)]
        exact g3 k1 i hne
      · rw [xput_ne (by omega), g2]
        by_cases d : j < i
        · rw [if_pos d, if_pos (by omega)]
        · rw [if_neg d, if_neg (by omega)]
    · dsimp only
      rw [xput_ne (by omega)]
      exact g3 a j h
  · rintro ⟨u, t⟩ ⟨g1, g2, g3⟩ rec
    dsimp only at g1 g2 g3 ⊢
    subst g1
    rw [zI_of (n := ((289 : Nat) : Int)) (by omega) (by omega), if_pos (by omega)]
    exact OK_some ⟨g2, g3⟩
theorem dlF_neg {c : Int} {m k j : Nat} : dlF b c m k j (-1) = - dlF b c m k j 1 := by
  unfold dlF
  repeat' split
  all_goals omega
theorem im_all {ρ : Nat → Int} {c : Int} (hV : V β) : allF (imF β ρ c) = allF β := all_congr (fun i hi h => imF_id hi (by
  have v5 := hV.2.2.2.2.2.1
  omega)) hV
/-- the row on the way to the improved one -/
def imP (β ρ : Nat → Int) (c : Int) (m : Nat) (i : Nat) : Int := if i < 289 then (if (c = 0 ∧ i = 2) ∨ (c = 1 ∧ i = 3) ∨ (c = 2 ∧ i = 0) ∨ (c = 3 ∧ 70 ≤ i ∧ i < 70 + 4 * m ∧ i % 4 = 2) then β i + 1 else β i) else ρ i
theorem r_withTail {ρ : Nat → Int} {p : Int} (hp : 0 ≤ p ∧ p ≤ 4) (hV : V β) (h0 : V0 β) (h60 : allF β ≤ 60) (ht : τ 187 = imP β ρ p 0) (hn : 4000000 ≤ n) :
    OK (loopF (fun rec16 (t15 : Int × xS) => xck 5 289 <| xj (fun (q20 : Unit) => xlet (if (zI p) = 4 then 1 else 0) fun v21 => xbo v21 <| xlet (xput t15.2 184 50 v21) fun s23 => (m_X13_simulates n 187 s23).bind fun s24 => xbS (m_X13_latest n 187 s24) fun v26 s25 => xlet (xput s25 184 50 0) fun s27 => some (v26, s27)) fun J18 => if (zI (t15.2 187 (5 : Int).toNat)) ≤ (zI t15.1) then J18 () else if (zI p) = 3 then xck (zI ((70 + (4 * t15.1)) + 0)) 289 <| xck (zI ((70 + (4 * t15.1)) + 0)) 289 <| xlet (xput t15.2 187 (zI ((70 + (4 * t15.1)) + 0)).toNat ((t15.2 187 (zI ((70 + (4 * t15.1)) + 0)).toNat) + 1)) fun s32 => xlet (t15.1 + 1) fun v33 => rec16 (v33, s32) else J18 ()) n (0, τ))
      (fun x => x.1 = ltV (imF β ρ p) (imF β ρ p) (if p = 4 then 1000000 else 0) ∧ x.2 184 50 = 0 ∧ ∀ a j, a ≠ 187 → ¬ (a = 184 ∧ j = 50) → ((a < 184 ∨ (184 < a ∧ a < 192) ∨ 214 < a ∨ (a = 184 ∧ (j < 19)))) → x.2 a j = τ a j) := by
  have v5 := hV.2.2.2.2.2.1
  have hVi : V (imF β ρ p) := imF_V hV h0
  have hai : allF (imF β ρ p) ≤ 60 := by rw [im_all hV]; exact h60
  have hzp : zI p = p := zI_of (by omega) (by omega)
  simp only [hzp]
  have fin : ∀ t : xS, t 187 = imF β ρ p → (∀ a j, a ≠ 187 → t a j = τ a j) → OK (xlet (if p = 4 then 1 else 0) fun v21 => xbo v21 <| xlet (xput t 184 50 v21) fun s23 => (m_X13_simulates n 187 s23).bind fun s24 => xbS (m_X13_latest n 187 s24) fun v26 s25 => xlet (xput s25 184 50 0) fun s27 => some (v26, s27)) (fun x => x.1 = ltV (imF β ρ p) (imF β ρ p) (if p = 4 then 1000000 else 0) ∧ x.2 184 50 = 0 ∧ ∀ a j, a ≠ 187 → ¬ (a = 184 ∧ j = 50) → ((a < 184 ∨ (184 < a ∧ a < 192) ∨ 214 < a ∨ (a = 184 ∧ (j < 19)))) → x.2 a j = τ a j) := fun t h1 h2 => by
    have e : ∀ w : Int, (w = 0 ∨ w = 1) → (if p = 4 then (1 : Int) else 0) = w → OK (xbo w <| xlet (xput t 184 50 w) fun s23 => (m_X13_simulates n 187 s23).bind fun s24 => xbS (m_X13_latest n 187 s24) fun v26 s25 => xlet (xput s25 184 50 0) fun s27 => some (v26, s27)) (fun x => x.1 = ltV (imF β ρ p) (imF β ρ p) (if p = 4 then 1000000 else 0) ∧ x.2 184 50 = 0 ∧ ∀ a j, a ≠ 187 → ¬ (a = 184 ∧ j = 50) → ((a < 184 ∨ (184 < a ∧ a < 192) ∨ 214 < a ∨ (a = 184 ∧ (j < 19)))) → x.2 a j = τ a j) := fun w hw hwp => by
      rw [xbo_of hw, xlet_eq]
      have k7 : (xput t 184 50 w) 187 = imF β ρ p := by rw [xput_ne1 (by omega)]; exact h1
      refine OK_bind (r_simulates (k := 187) (by omega) k7 hVi hai hn) (fun s24 h => ?_)
      obtain ⟨g1, g2⟩ := h
      have e50 : s24 184 50 = w := by rw [g2 _ _ (by omega)]; exact xput_eq
      have e187 : s24 187 = imF β ρ p := by rw [← k7]; funext j; exact g2 _ _ (by omega)
      have hI : NI s24 187 (imF β ρ p) (imF β ρ p) (if p = 4 then 1000000 else 0) := ⟨by omega, e187, fun _ _ _ => rfl, hVi, hVi, hai, (RG_of hVi hai g1).1, by
        rw [e50]
        by_cases q : p = 4
        · rw [if_pos q] at hwp ⊢
          exact Or.inr ⟨rfl, hwp.symm⟩
        · rw [if_neg q] at hwp ⊢
          exact Or.inl ⟨rfl, hwp.symm⟩⟩
      refine OK_xbS (r_latest hI hn) (fun v s25 h => ?_)
      obtain ⟨y1, y2⟩ := h
      dsimp only at y1 y2
      rw [xlet_eq]
      refine OK_some ⟨y1, (xput_eq : (xput s25 184 50 0) 184 50 = 0), fun a j c1 c2 c3 => ?_⟩
      show (xput s25 184 50 0) a j = τ a j
      rw [xput_ne c2, y2 _ _ (by omega) (by omega), g2 _ _ (by omega), xput_ne c2]
      exact h2 a j c1
    rw [xlet_eq]
    by_cases q : p = 4
    · rw [if_pos q]
      have := e 1 (Or.inr rfl) (if_pos q)
      exact this
    · rw [if_neg q]
      have := e 0 (Or.inl rfl) (if_neg q)
      exact this
  obtain ⟨m, hm⟩ : ∃ m : Nat, β 5 = (m : Int) := ⟨(β 5).toNat, by omega⟩
  have e5 : ∀ t : xS, ∀ l, t 187 = imP β ρ p l → t 187 (5 : Int).toNat = (m : Int) := fun t l h => by
    rw [h, tn_lit.2.2.2.2.2.1]
    unfold imP
    rw [if_pos (by omega), if_neg (by omega), hm]
  by_cases q3 : p = 3
  · refine loop_for m (fun l (t : Int × xS) => t.1 = (l : Int) ∧ t.2 187 = imP β ρ p l ∧ ∀ a j, a ≠ 187 → t.2 a j = τ a j) ?_ ?_ (by omega) ⟨rfl, ht, fun _ _ _ => rfl⟩
    · rintro l ⟨u, t⟩ hl ⟨g1, g2, g3⟩ rec hrec
      dsimp only at g1 g2 g3 hrec ⊢
      subst g1
      rw [xck_of (by omega) (by omega), xj_eq]
      simp only [e5 t l g2]
      rw [zI_of (n := (m : Int)) (by omega) (by omega), zI_of (n := (l : Int)) (by omega) (by omega), if_neg (by omega), if_pos q3, zI_of (n := 70 + 4 * (l : Int) + 0) (by omega) (by omega), xck_of (by omega) (by omega), xck_of (by omega) (by omega), show (70 + 4 * (l : Int) + 0).toNat = 70 + 4 * l by omega, xlet_eq, xlet_eq]
      refine hrec _ ⟨by (try dsimp only); omega, ?_, fun a j h => ?_⟩
      · dsimp only
        funext j
        by_cases c : j = 70 + 4 * l
        · rw [c, xput_eq, g2]
          unfold imP
          rw [if_pos (by omega), if_neg (by omega), if_pos (by omega), if_pos (by omega)]
        · rw [xput_ne (by omega), g2]
          unfold imP
          by_cases c2 : j < 289
          · rw [if_pos c2, if_pos c2]
            by_cases c3 : (p = 0 ∧ j = 2) ∨ (p = 1 ∧ j = 3) ∨ (p = 2 ∧ j = 0) ∨ (p = 3 ∧ 70 ≤ j ∧ j < 70 + 4 * l ∧ j % 4 = 2)
            · rw [if_pos c3, if_pos (by omega)]
            · rw [if_neg c3, if_neg (by omega)]
          · rw [if_neg c2, if_neg c2]
      · dsimp only
        rw [xput_ne (by omega)]
        exact g3 a j h
    · rintro ⟨u, t⟩ ⟨g1, g2, g3⟩ rec
      dsimp only at g1 g2 g3 ⊢
      subst g1
      rw [xck_of (by omega) (by omega), xj_eq]
      simp only [e5 t m g2]
      rw [if_pos (Int.le_refl _)]
      refine fin t ?_ g3
      rw [g2]
      funext j
      unfold imP imF
      rw [hm, tn_cast]
  · refine loop_for 0 (fun l (t : Int × xS) => t = (0, τ)) (fun l t hl => absurd hl (Nat.not_lt_zero _)) ?_ (by omega) rfl
    rintro t rfl rec
    try dsimp only
    have hf : τ 187 = imF β ρ p := by
      rw [ht]
      funext j
      unfold imP imF
      by_cases c2 : j < 289
      · rw [if_pos c2, if_pos c2]
        by_cases c3 : (p = 0 ∧ j = 2) ∨ (p = 1 ∧ j = 3) ∨ (p = 2 ∧ j = 0) ∨ (p = 3 ∧ 70 ≤ j ∧ j < 70 + 4 * 0 ∧ j % 4 = 2)
        · rw [if_pos c3, if_pos (by omega)]
        · rw [if_neg c3, if_neg (by omega)]
      · rw [if_neg c2, if_neg c2]
    rw [xck_of (by omega) (by omega), xj_eq]
    simp only [e5 τ 0 ht]
    split
    · exact fin τ hf (fun _ _ _ => rfl)
    · exact fin τ hf (fun _ _ _ => rfl)
theorem q_latestStartWith (hT : TP σ β) (h0 : V0 β) (hn : 4000000 ≤ n) {p : Int} (h1 : -2147483648 ≤ p) (h2 : p < 2147483648) : BOTH2 σ β (m_X12_latestStartWith n p σ) (m_X13_latestStartWith n p) := by
  have hT' := hT
  obtain ⟨⟨hB, hβ, hV, h4⟩, hR, hp, h50⟩ := hT
  have hall := allF_bd hV
  have hb := bkA_lt (σ 0 3)
  have hb6 := bkA_ge (σ 0 3)
  have v5 := hV.2.2.2.2.2.1
  have k5 : ∀ t : xS, (xput t 184 7 0) 185 = t 185 := fun t => xput_ne1 (by omega)
  unfold BOTH2 m_X12_latestStartWith m_X13_latestStartWith
  rw [xj_eq, zI_of h1 h2, c_batchCount hB hV hn, bind_some']
  have hin : m_X13_isIn p 0 4 = if 0 ≤ p ∧ p ≤ 4 then 1 else 0 := r_isIn (by omega) (by omega) (by omega) (by omega) (by omega) (by omega)
  by_cases c : 0 ≤ p ∧ p ≤ 4
  · rw [if_neg (by omega), if_pos (by omega)]
    by_cases c60 : allF β ≤ 60
    · rw [if_pos c60, zI_of (n := allF β) (by omega) (by omega), if_neg (by omega)]
      have h7 : σ (bkA (σ 0 3)) 7 = (((β 5).toNat : Nat) : Int) := by rw [hB.2.2.2.2.2.1]; omega
      refine OK_bind (c_improve (m := (β 5).toNat) c h7 (by omega) hn) (fun s9 h9 => ?_)
      have dl0 : ∀ k j, ¬ (6 ≤ k ∧ k < 118) → dlF (bkA (σ 0 3)) p (β 5).toNat k j 1 = 0 := fun k j h => by
        unfold dlF
        repeat' split
        all_goals omega
      have e3 : s9 0 3 = σ 0 3 := by rw [h9, dl0 _ _ (by omega)]; omega
      have hB9 : Bk s9 (bkA (s9 0 3)) (imF β (σ 187) p) (if p = 4 then 1000000 else 0) := by rw [e3]; exact c_improved c hB hV h9
      have hVi : V (imF β (σ 187) p) := imF_V hV h0
      have hai : allF (imF β (σ 187) p) ≤ 60 := by rw [im_all hV]; exact c60
      have hds : dsF (imF β (σ 187) p) = dsF β := ds_congr (fun i hi => imF_id (by omega) (by omega)) hV
      have g6 : imF β (σ 187) p 6 = β 6 := imF_id (by omega) (by omega)
      have hR9 : RD s9 (bkA (s9 0 3) + 39) (imF β (σ 187) p) := by
        rw [e3]
        have hdl : ∀ a j, bkA (σ 0 3) + 39 + 6 ≤ a → a ≤ bkA (σ 0 3) + 39 + 14 → s9 a j = σ a j := fun a j c1 c2 => by
          rw [h9]
          have : dlF (bkA (σ 0 3)) p (β 5).toNat a j 1 = 0 := by
            unfold dlF
            repeat' split
            all_goals omega
          omega
        have h := RD_same hR hdl
        unfold RD
        rw [hds, g6]
        exact h
      have he : (if p = 4 then (1000000 : Int) else 0) = 0 ∨ (if p = 4 then (1000000 : Int) else 0) = 1000000 := by split <;> omega
      refine OK_xbS (c_latestAsItIs hB9 hVi hai he hR9 hn) (fun v s10 h => ?_)
      obtain ⟨g1, -, g3⟩ := h
      dsimp only at g1 g3
      have e3' : s10 0 3 = σ 0 3 := by rw [g3 _ _ (by omega)]; exact e3
      have h7' : s10 (bkA (s10 0 3)) 7 = (((β 5).toNat : Nat) : Int) := by
        rw [e3', g3 _ _ (by omega), h9, h7]
        have : dlF (bkA (σ 0 3)) p (β 5).toNat (bkA (σ 0 3)) 7 1 = 0 := by
          unfold dlF
          repeat' split
          all_goals omega
        omega
      refine OK_bind (c_improve (m := (β 5).toNat) c h7' (by omega) hn) (fun s12 h12 => ?_)
      have hfr : ∀ a j, ¬ (151 ≤ a ∧ a ≤ 183) → s12 a j = σ a j := fun a j h => by
        rw [h12, e3', dlF_neg, g3 _ _ h, h9]
        omega
      have hTs : TP s12 β := TP_cfr hT' hfr
      have hlb := ltV_bd (β := imF β (σ 187) p) (γ := imF β (σ 187) p) (fun _ _ _ => rfl) hVi hVi hai he
      refine OK_some ⟨by (try dsimp only); omega, fun a j c1 _ => hfr a j (by omega), hTs, ?_⟩
      try dsimp only
      rw [xlet_eq, hin, if_pos c, if_neg (by omega), r_isMuch (β := β) (by rw [k5]; exact hTs.1.2.1) hV hn, bind_some', if_pos c60, zI_of (n := 0) (by omega) (by omega), if_pos rfl]
      have fr0 : ∀ a j, ¬ (a = 184 ∧ j = 7) → (xput s12 184 7 0) a j = s12 a j := fun a j h => xput_ne h
      have e70 : (xput s12 184 7 0) 184 7 = 0 := xput_eq
      have e185 : (xput s12 184 7 0) 185 = β := by rw [k5]; exact hTs.1.2.1
      generalize xput s12 184 7 0 = s1 at fr0 e70 e185 ⊢
      refine OK_bind (r_copies (k1 := 185) (k2 := 187) (by omega) hn) (fun s5 h => ?_)
      obtain ⟨w1, w2⟩ := h
      have e187 : ∀ i, s5 187 i = if i < 289 then β i else σ 187 i := fun i => by
        rw [w1, e185, fr0 _ _ (by omega), hfr _ _ (by omega)]
      have key : ∀ t : xS, t 187 = imP β (σ 187) p 0 → (∀ a j, a ≠ 187 → t a j = s5 a j) → ∀ o, o = loopF (fun rec16 (t15 : Int × xS) => xck 5 289 <| xj (fun (q20 : Unit) => xlet (if (zI p) = 4 then 1 else 0) fun v21 => xbo v21 <| xlet (xput t15.2 184 50 v21) fun s23 => (m_X13_simulates n 187 s23).bind fun s24 => xbS (m_X13_latest n 187 s24) fun v26 s25 => xlet (xput s25 184 50 0) fun s27 => some (v26, s27)) fun J18 => if (zI (t15.2 187 (5 : Int).toNat)) ≤ (zI t15.1) then J18 () else if (zI p) = 3 then xck (zI ((70 + (4 * t15.1)) + 0)) 289 <| xck (zI ((70 + (4 * t15.1)) + 0)) 289 <| xlet (xput t15.2 187 (zI ((70 + (4 * t15.1)) + 0)).toNat ((t15.2 187 (zI ((70 + (4 * t15.1)) + 0)).toNat) + 1)) fun s32 => xlet (t15.1 + 1) fun v33 => rec16 (v33, s32) else J18 ()) n (0, t) → OK o (fun y => y.1 = v ∧ y.2 184 7 = 0 ∧ rfr8 s12 y.2) := fun t ht1 ht2 o ho => by
        subst ho
        refine OK_mono (r_withTail c hV h0 c60 ht1 hn) (fun y hy => ?_)
        obtain ⟨y1, y2, y3⟩ := hy
        refine ⟨by rw [y1, g1], by rw [y3 _ _ (by omega) (by omega) (by omega), ht2 _ _ (by omega), w2 _ _ (by omega)]; exact e70, fun a j hj => ?_⟩
        by_cases q : a = 184 ∧ j = 50
        · rw [q.1, q.2, y2, hfr _ _ (by omega), h50]
        · rw [y3 _ _ (by omega) q (by omega), ht2 _ _ (by omega), w2 _ _ (by omega), fr0 _ _ (by omega)]
      rw [xj_eq]
      have pt : ∀ J : Nat, J < 289 → ((p = 0 ∧ J = 2) ∨ (p = 1 ∧ J = 3) ∨ (p = 2 ∧ J = 0)) → (xput s5 187 J (s5 187 J + 1)) 187 = imP β (σ 187) p 0 := fun J hJ hc => by
        funext j
        unfold imP
        by_cases d : j = J
        · rw [d, xput_eq, e187, if_pos hJ, if_pos hJ, if_pos (by omega)]
        · rw [xput_ne (by omega), e187]
          by_cases d2 : j < 289
          · rw [if_pos d2, if_pos d2, if_neg (by omega)]
          · rw [if_neg d2, if_neg d2]
      have pfr : ∀ (J : Nat) (w : Int) a j, a ≠ 187 → (xput s5 187 J w) a j = s5 a j := fun J w a j h => xput_ne (by omega)
      have hz2 : zI p = p := zI_of h1 h2
      by_cases p0 : p = 0
      · rw [if_pos p0, xck_of (by omega) (by omega), xck_of (by omega) (by omega), xlet_eq]
        dsimp only
        rw [xj_eq, if_neg (by omega)]
        dsimp only
        rw [xj_eq, if_neg (by omega)]
        refine key _ (pt 2 (by omega) (by omega)) (pfr _ _) _ ?_
        first | (simp only [hz2]; done) | (simp only [hz2]; rfl)
      · rw [if_neg p0]
        dsimp only
        rw [xj_eq]
        by_cases p1 : p = 1
        · rw [if_pos p1, xck_of (by omega) (by omega), xck_of (by omega) (by omega), xlet_eq]
          dsimp only
          rw [xj_eq, if_neg (by omega)]
          refine key _ (pt 3 (by omega) (by omega)) (pfr _ _) _ ?_
          first | (simp only [hz2]; done) | (simp only [hz2]; rfl)
        · rw [if_neg p1]
          dsimp only
          rw [xj_eq]
          by_cases p2 : p = 2
          · rw [if_pos p2, xck_of (by omega) (by omega), xck_of (by omega) (by omega), xlet_eq]
            refine key _ (pt 0 (by omega) (by omega)) (pfr _ _) _ ?_
            first | (simp only [hz2]; done) | (simp only [hz2]; rfl)
          · rw [if_neg p2]
            refine key s5 ?_ (fun _ _ _ => rfl) _ ?_
            · funext j
              unfold imP
              rw [e187]
              by_cases d2 : j < 289
              · rw [if_pos d2, if_pos d2, if_neg (by omega)]
              · rw [if_neg d2, if_neg d2]
            · simp only [hz2]
    · rw [if_neg c60, zI_of (n := -3) (by omega) (by omega), if_pos rfl]
      refine OK_some ⟨by (try dsimp only); omega, fun _ _ _ _ => rfl, hT', ?_⟩
      try dsimp only
      rw [xlet_eq, hin, if_pos c, if_neg (by omega), r_isMuch (β := β) (by rw [k5]; exact hβ) hV hn, bind_some', if_neg c60, zI_of (n := 1) (by omega) (by omega), if_neg (by omega)]
      exact OK_some ⟨rfl, (xput_eq : (xput σ 184 7 0) 184 7 = 0), fun a j hj => (xput_ne (by omega) : (xput σ 184 7 0) a j = σ a j)⟩
  · have hno : (if p < 0 then (some ((-1 : Int), σ)) else if p < 5 then (if zI (if allF β ≤ 60 then allF β else -3) = -3 then some ((-3 : Int), σ) else (m_X1_improve n (bkA (σ 0 3)) p 1 σ).bind fun s9 => xbS (m_X12_latestAsItIs n s9) fun v11 s10 => (m_X1_improve n (bkA (s10 0 3)) p (-1) s10).bind fun s12 => some (v11, s12)) else some ((-1), σ)) = some (-1, σ) := by
      by_cases q : p < 0
      · rw [if_pos q]
      · rw [if_neg q, if_neg (by omega)]
    show OK (if p < 0 then (some ((-1 : Int), σ)) else if p < 5 then (if zI (if allF β ≤ 60 then allF β else -3) = -3 then some ((-3 : Int), σ) else (m_X1_improve n (bkA (σ 0 3)) p 1 σ).bind fun s9 => xbS (m_X12_latestAsItIs n s9) fun v11 s10 => (m_X1_improve n (bkA (s10 0 3)) p (-1) s10).bind fun s12 => some (v11, s12)) else some ((-1), σ)) _
    rw [hno]
    refine OK_some ⟨by (try dsimp only); omega, fun _ _ _ _ => rfl, hT', ?_⟩
    try dsimp only
    rw [xlet_eq, hin, if_neg c, if_pos rfl]
    exact OK_some ⟨rfl, (xput_eq : (xput σ 184 7 0) 184 7 = 0), fun a j hj => (xput_ne (by omega) : (xput σ 184 7 0) a j = σ a j)⟩
end LA3
