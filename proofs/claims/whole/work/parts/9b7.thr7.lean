/-! THROWERS: the oven, the minute of a stage -/
section QTH2
variable {σ τ : xS} {n m L : Nat} {β : Nat → Int} {B : Nat → Nat → Int} {p p2 : Int}
theorem q_ovenOf (h : TJ σ β L m B) (hn : 4000000 ≤ n) (h1 : -2147483648 ≤ p) (h2 : p < 2147483648) : ∃ e : Int ⊕ String, (∀ q, e = .inr q → q = XIS ∨ q = XIB) ∧ (∀ l : Launch, l.stackTraces = false → ∀ E : xE, E.2.1.2.2 9 0 ≠ 0 → xMeX l E yX12_ovenOf cX12_ovenOf 2 (some .int) rmT [.ref (xqa E.2.2 0), iV p] WW σ (xE1 e σ)) ∧ ∃ y υ, m_X13_ovenOf n p (xE2 e σ) = some (y, υ) ∧ TI υ ∧ xE3 e y υ := by
  have hT := h.1.1
  have h5 := NT_h5 hT
  obtain ⟨-, hβ, hV, h4⟩ := hT
  rcases h4 with ⟨z1, z2⟩ | ⟨z1, z2, h60, hf, hRF⟩
  · have e0 : zI (σ 0 8) = 0 := by rw [z1]; decide
    refine ⟨.inr XIS, fun q hq => by cases hq; exact Or.inl rfl, fun l hlt E hE => ct_X12_ovenOf hlt hE (fun _ => rfl) (fun c => absurd e0 c) (fun c => absurd e0 c), ?_⟩
    obtain ⟨⟨v, s⟩, hr, g1, g2, -⟩ := r_isBatch (n := n) hβ hV h5 hn h1 h2
    obtain ⟨g2, g3⟩ := g2 z2
    dsimp only at g1 g2 g3
    refine ⟨0, s, ?_, TI_rfr7 h g1, g3⟩
    unfold m_X13_ovenOf
    rw [hr]
    show (xj (fun (q5 : Int) => some (q5, s)) fun J3 => if (zI v) = 0 then J3 0 else xck (zI p) 60 <| J3 (s 196 (zI p).toNat)) = _
    rw [xj_eq, g2, zI_of (by omega) (by omega), if_pos rfl]
  · have e0 : ¬ zI (σ 0 8) = 0 := by rw [z1]; decide
    have hP := prm_V hV h60
    have h6 : (bl β).length ≤ 60 := hP.2.2.1
    obtain ⟨⟨r0, r2, rd, rb, rc, ro⟩, -, -⟩ := hRF
    have hbB := hb_of (p := p) r2 (by omega) h1 h2
    by_cases c : 0 ≤ p ∧ p < ((bl β).length : Int)
    · rw [if_pos c] at hbB
      obtain ⟨i, rfl⟩ : ∃ i : Nat, p = (i : Int) := ⟨p.toNat, by omega⟩
      have ez : zI (i : Int) = (i : Int) := zI_of (by omega) (by omega)
      refine ⟨.inl (σ (118 + 2) (zI (i : Int)).toNat), (fun q hq => by cases hq), (fun l hlt E hE => ct_X12_ovenOf hlt hE (fun c => absurd c e0) (fun _ c => by rw [hbB] at c; exact absurd c (by decide)) (fun _ _ => ⟨by rw [ez]; omega, rfl⟩)), ?_⟩
      obtain ⟨⟨v, s⟩, hr, g1, -, g2⟩ := r_isBatch (n := n) (σ := xput σ 215 0 (zI (σ (118 + 2) (zI (i : Int)).toNat))) (β := β) (by rw [xput_ne1 (by omega)]; exact hβ) hV (by rw [xput_ne (by omega)]; exact h5) hn h1 h2
      obtain ⟨g2, g3, hG, hF⟩ := (g2 (by rw [xput_ne (by omega)]; exact z2)).2 c
      dsimp only at g1 g2 g3 hG
      have ed : s 196 i = σ (118 + 2) i := by rw [(hG.2.1 i (by omega)).2.2.2, (rc i (by omega)).1]
      refine ⟨s 196 i, s, ?_, TI_215 h g1, g3, ?_, ?_⟩
      · unfold m_X13_ovenOf
        show xbS (m_X13_isBatch n (i : Int) (xput σ 215 0 (zI (σ (118 + 2) (zI (i : Int)).toNat)))) _ = _
        rw [hr]
        show (xj (fun (q5 : Int) => some (q5, s)) fun J3 => if (zI v) = 0 then J3 0 else xck (zI (i : Int)) 60 <| J3 (s 196 (zI (i : Int)).toNat)) = _
        rw [xj_eq, g2, zI_of (n := 1) (by omega) (by omega), if_neg (by omega), ez, xck_of (by omega) (by omega), tn_cast]
      · rw [g1 215 0 (by omega), xput_eq]
      · rw [ed, ez, tn_cast]
    · rw [if_neg c] at hbB
      refine ⟨.inr XIB, fun q hq => by cases hq; exact Or.inr rfl, fun l hlt E hE => ct_X12_ovenOf hlt hE (fun c => absurd c e0) (fun _ _ => rfl) (fun _ c => absurd hbB c), ?_⟩
      obtain ⟨⟨v, s⟩, hr, g1, -, g2⟩ := r_isBatch (n := n) hβ hV h5 hn h1 h2
      obtain ⟨g2, g3⟩ := (g2 z2).1 c
      dsimp only at g1 g2 g3
      refine ⟨0, s, ?_, TI_rfr7 h g1, g3⟩
      unfold m_X13_ovenOf
      rw [hr]
      show (xj (fun (q5 : Int) => some (q5, s)) fun J3 => if (zI v) = 0 then J3 0 else xck (zI p) 60 <| J3 (s 196 (zI p).toNat)) = _
      rw [xj_eq, g2, zI_of (by omega) (by omega), if_pos rfl]
/-- the class's minute of a stage is the reference's -/
theorem st_eq (hP : PV (prm β)) (hF : FN (prm β) (Mf (prm β)).1) {f : Int} (hf : 0 ≤ f ∧ f ≤ 1439) {i : Nat} (hi : i < (bl β).length) {r : Nat} (hr : r < 6) : bgF (prm β) f (Mf (prm β)).1 r i = (if zI (rgF (prm β) (Mf (prm β)).1 r i) = -1 then -1 else f + rgF (prm β) (Mf (prm β)).1 r i) := by
  have hT := hP.1 i hi
  have hb := hF i hi
  generalize (Mf (prm β)).1 = N at hb ⊢
  have er : rE (prm β) N i = N 0 i + pT (prm β) i 0 + pT (prm β) i 1 := rfl
  have ep : pE (prm β) N i = N 1 i + pT (prm β) i 2 + pT (prm β) i 3 := rfl
  have h6 : r = 0 ∨ r = 1 ∨ r = 2 ∨ r = 3 ∨ r = 4 ∨ r = 5 := by omega
  obtain ⟨b0, b1, b2⟩ := hb
  rcases h6 with rfl | rfl | rfl | rfl | rfl | rfl
  · show shF f (N 0 i) = if zI (N 0 i) = -1 then -1 else f + N 0 i
    unfold shF
    rw [zI_of (by omega) (by omega), if_neg (by omega), if_neg (by omega)]
    omega
  · show (if N 0 i = -1 then -1 else N 0 i + pT (prm β) i 0 + f) = if zI (N 0 i + pT (prm β) i 0) = -1 then -1 else f + (N 0 i + pT (prm β) i 0)
    rw [zI_of (by omega) (by omega), if_neg (by omega), if_neg (by omega)]
    omega
  · show shF f (N 1 i) = if zI (N 1 i) = -1 then -1 else f + N 1 i
    unfold shF
    rw [zI_of (by omega) (by omega), if_neg (by omega), if_neg (by omega)]
    omega
  · show (if N 1 i = -1 then -1 else N 1 i + pT (prm β) i 2 + f) = if zI (N 1 i + pT (prm β) i 2) = -1 then -1 else f + (N 1 i + pT (prm β) i 2)
    rw [zI_of (by omega) (by omega), if_neg (by omega), if_neg (by omega)]
    omega
  · show shF f (N 2 i) = if zI (N 2 i) = -1 then -1 else f + N 2 i
    unfold shF
    rw [zI_of (by omega) (by omega)]
    split
    · rfl
    · omega
  · show (if N 2 i = -1 then -1 else N 2 i + pT (prm β) i 5 + f) = if zI (if N 2 i = -1 then -1 else N 2 i + pT (prm β) i 5) = -1 then -1 else f + (if N 2 i = -1 then -1 else N 2 i + pT (prm β) i 5)
    by_cases c : N 2 i = -1
    · rw [if_pos c, if_pos c, zI_of (by omega) (by omega), if_pos rfl]
    · rw [if_neg c, if_neg c, zI_of (by omega) (by omega), if_neg (by omega)]
      omega
theorem q_stageMinute (h : TJ σ β L m B) (hn : 4000000 ≤ n) (h1 : -2147483648 ≤ p) (h2 : p < 2147483648) (h3 : -2147483648 ≤ p2) (h4 : p2 < 2147483648) : ∃ e : Int ⊕ String, (∀ q, e = .inr q → q = XIS ∨ q = XIB) ∧ (∀ l : Launch, l.stackTraces = false → ∀ E : xE, E.2.1.2.2 9 0 ≠ 0 → xMeX l E yX12_stageMinute cX12_stageMinute 3 (some .int) rmT [.ref (xqa E.2.2 0), iV p, iV p2] WW σ (xE1 e σ)) ∧ ∃ y υ, m_X13_stageMinute n p p2 (xE2 e σ) = some (y, υ) ∧ TI υ ∧ xE3 e y υ := by
  have hT := h.1.1
  have h5 := NT_h5 hT
  obtain ⟨-, hβ, hV, hq⟩ := hT
  rcases hq with ⟨z1, z2⟩ | ⟨z1, z2, h60, hf, hRF⟩
  · have e0 : zI (σ 0 8) = 0 := by rw [z1]; decide
    refine ⟨.inr XIS, fun q hq => by cases hq; exact Or.inl rfl, fun l hlt E hE => ct_X12_stageMinute hlt hE (fun _ => rfl) (fun c => absurd e0 c) (fun c => absurd e0 c), ?_⟩
    obtain ⟨⟨v, s⟩, hr, g1, g2, -⟩ := r_isBatch (n := n) hβ hV h5 hn h1 h2
    obtain ⟨g2, g3⟩ := g2 z2
    dsimp only at g1 g2 g3
    refine ⟨0, s, ?_, TI_rfr7 h g1, g3⟩
    unfold m_X13_stageMinute
    rw [hr]
    unfold xbS
    dsimp only
    rw [g2, zI_of (by omega) (by omega), if_pos rfl]
  · have e0 : ¬ zI (σ 0 8) = 0 := by rw [z1]; decide
    have hP := prm_V hV h60
    have h6 : (bl β).length ≤ 60 := hP.2.2.1
    have ez2 : zI p2 = p2 := zI_of h3 h4
    obtain ⟨⟨r0, r2, rd, rb, rc, ro⟩, -, -⟩ := hRF
    have hbB := hb_of (p := p) r2 (by omega) h1 h2
    by_cases c : 0 ≤ p ∧ p < ((bl β).length : Int)
    · rw [if_pos c] at hbB
      obtain ⟨i, rfl⟩ : ∃ i : Nat, p = (i : Int) := ⟨p.toNat, by omega⟩
      have ez : zI (i : Int) = (i : Int) := zI_of (by omega) (by omega)
      by_cases c2 : 0 ≤ p2 ∧ p2 < 6
      · obtain ⟨r, rfl⟩ : ∃ r : Nat, p2 = (r : Int) := ⟨p2.toNat, by omega⟩
        refine ⟨.inl (σ (118 + 4 + (zI (r : Int)).toNat) (zI (i : Int)).toNat), (fun q hq => by cases hq), (fun l hlt E hE => ct_X12_stageMinute hlt hE (fun c => absurd c e0) (fun _ c => by rw [hbB] at c; exact absurd c (by decide)) (fun _ _ => ⟨by rw [ez]; omega, fun c => by rw [ez2] at c; omega, fun _ _ => rfl⟩)), ?_⟩
        obtain ⟨⟨v, s⟩, hr, g1, -, g2⟩ := r_isBatch (n := n) (σ := xput σ 215 0 (zI (σ (118 + 4 + (zI (r : Int)).toNat) (zI (i : Int)).toNat))) (β := β) (by rw [xput_ne1 (by omega)]; exact hβ) hV (by rw [xput_ne (by omega)]; exact h5) hn h1 h2
        obtain ⟨g2, g3, hG, hF⟩ := (g2 (by rw [xput_ne (by omega)]; exact z2)).2 c
        dsimp only at g1 g2 g3 hG
        have hin : m_X13_isIn (r : Int) 0 5 = 1 := by rw [r_isIn (by omega) (by omega) (by omega) (by omega) (by omega) (by omega), if_pos (by omega)]
        have e6 : s 184 6 = σ 184 6 := by rw [g1 184 6 (by omega), xput_ne (by omega)]
        have hse := st_eq hP hF hf (i := i) (by omega) (r := r) (by omega)
        refine ⟨σ (118 + 4 + r) i, s, ?_, TI_215 h g1, g3, ?_, ?_⟩
        · unfold m_X13_stageMinute
          show xbS (m_X13_isBatch n (i : Int) (xput σ 215 0 (zI (σ (118 + 4 + (zI (r : Int)).toNat) (zI (i : Int)).toNat)))) _ = _
          rw [hr]
          unfold xbS
          dsimp only
          rw [g2, zI_of (n := 1) (by omega) (by omega), if_neg (by omega), ez2, hin, if_neg (show ¬ (1 : Int) = 0 by omega)]
          unfold m_X13_stageOf
          have e7 : 6 * (i : Int) + (r : Int) = ((6 * i + r : Nat) : Int) := by omega
          rw [e7, zI_of (n := ((6 * i + r : Nat) : Int)) (by omega) (by omega), xck_of (by omega) (by omega), tn_cast, bind_some', xlet_eq, (hG.2.1 i (by omega)).2.2.1 r (by omega), e6, ← hse, rb i (by omega) r (by omega)]
        · rw [g1 215 0 (by omega), xput_eq]
        · rw [ez, ez2, tn_cast, tn_cast]
      · refine ⟨.inr XIB, fun q hq => by cases hq; exact Or.inr rfl, (fun l hlt E hE => ct_X12_stageMinute hlt hE (fun c => absurd c e0) (fun _ _ => rfl) (fun _ _ => ⟨by rw [ez]; omega, fun _ => rfl, fun a b => by rw [ez2] at a b; omega⟩)), ?_⟩
        obtain ⟨⟨v, s⟩, hr, g1, -, g2⟩ := r_isBatch (n := n) hβ hV h5 hn h1 h2
        obtain ⟨g2, g3, hG, hF⟩ := (g2 z2).2 c
        have hin : m_X13_isIn p2 0 5 = 0 := by rw [r_isIn (by omega) (by omega) (by omega) (by omega) (by omega) (by omega), if_neg (by omega)]
        dsimp only at g1 g2 g3
        refine ⟨0, xput s 184 7 2, ?_, TI_rfr7 h (fun a j h => by rw [xput_ne (by omega)]; exact g1 a j h), (xput_eq : (xput s 184 7 2) 184 7 = 2)⟩
        unfold m_X13_stageMinute
        rw [hr]
        unfold xbS
        dsimp only
        rw [g2, zI_of (n := 1) (by omega) (by omega), if_neg (by omega), ez2, hin, if_pos rfl]
        rfl
    · rw [if_neg c] at hbB
      refine ⟨.inr XIB, fun q hq => by cases hq; exact Or.inr rfl, fun l hlt E hE => ct_X12_stageMinute hlt hE (fun c => absurd c e0) (fun _ _ => rfl) (fun _ c => absurd hbB c), ?_⟩
      obtain ⟨⟨v, s⟩, hr, g1, -, g2⟩ := r_isBatch (n := n) hβ hV h5 hn h1 h2
      obtain ⟨g2, g3⟩ := (g2 z2).1 c
      dsimp only at g1 g2 g3
      refine ⟨0, s, ?_, TI_rfr7 h g1, g3⟩
      unfold m_X13_stageMinute
      rw [hr]
      unfold xbS
      dsimp only
      rw [g2, zI_of (by omega) (by omega), if_pos rfl]
end QTH2
