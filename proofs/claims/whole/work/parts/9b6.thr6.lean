/-! THROWERS: class and reference tell the same -/
abbrev xE1 (e : Int ⊕ String) (σ : xS) : xR := match e with
  | .inl v => .inl (some (iV v), σ)
  | .inr q => .inr q
abbrev xE2 (e : Int ⊕ String) (σ : xS) : xS := match e with
  | .inl v => xput σ 215 0 (zI v)
  | .inr _ => σ
abbrev xE3 (e : Int ⊕ String) (y : Int) (υ : xS) : Prop := match e with
  | .inl v => υ 184 7 = 0 ∧ υ 215 0 = zI v ∧ zI y = zI v
  | .inr q => υ 184 7 = if q = XIS then 1 else 2
section QTH
variable {σ τ : xS} {n m L : Nat} {β : Nat → Int} {B : Nat → Nat → Int} {p p2 : Int}
theorem r_isBatch (hβ : σ 185 = β) (hV : V β) (h5 : σ 184 5 = 0 ∨ (σ 184 5 = 1 ∧ allF β ≤ 60)) (hn : 4000000 ≤ n) (h1 : -2147483648 ≤ p) (h2 : p < 2147483648) :
    OK (m_X13_isBatch n p σ) (fun r => rfr7 σ r.2 ∧ (σ 184 5 = 0 → r.1 = 0 ∧ r.2 184 7 = 1) ∧ (σ 184 5 = 1 → (¬ (0 ≤ p ∧ p < ((bl β).length : Int)) → r.1 = 0 ∧ r.2 184 7 = 2) ∧ (0 ≤ p ∧ p < ((bl β).length : Int) → r.1 = 1 ∧ r.2 184 7 = 0 ∧ RG r.2 β ∧ FN (prm β) (Mf (prm β)).1))) := by
  unfold m_X13_isBatch
  refine OK_xbS (r_isNight hβ hV h5 hn) (fun v s h => ?_)
  obtain ⟨g1, g2, g3, g4⟩ := h
  dsimp only at g1 g2 g3 g4
  simp only [xj_eq, xlet_eq]
  rcases h5 with z | ⟨z, h60⟩
  · rw [g1, z, zI_of (by omega) (by omega), if_pos rfl, xput_eq, zI_of (by omega) (by omega), if_neg (by omega), xbo_0]
    exact OK_some ⟨fun a j h => by show (xput s 184 7 1) a j = _; rw [xput_ne (by omega)]; exact g4 a j h, fun _ => ⟨rfl, (xput_eq : (xput s 184 7 1) 184 7 = 1)⟩, fun h => absurd h (by omega)⟩
  · have hP := prm_V hV h60
    have h6 : (bl β).length ≤ 60 := hP.2.2.1
    obtain ⟨hG, hF⟩ := g2 z
    have h19 := hG.1
    rw [g1, z, zI_of (by omega) (by omega), if_neg (by omega), h19, zI_of h1 h2, zI_of (by omega) (by omega), r_isIn (by omega) (by omega) (by omega) (by omega) (by omega) (by omega)]
    by_cases c : 0 ≤ p ∧ p ≤ ((bl β).length : Int) - 1
    · rw [if_pos c, if_neg (by omega), g3, zI_of (by omega) (by omega), if_pos rfl, xbo_1]
      exact OK_some ⟨g4, fun h => absurd h (by omega), fun _ => ⟨fun h => absurd (show 0 ≤ p ∧ p < ((bl β).length : Int) by omega) h, fun _ => ⟨rfl, g3, hG, hF⟩⟩⟩
    · rw [if_neg c, if_pos rfl, xput_eq, zI_of (by omega) (by omega), if_neg (by omega), xbo_0]
      exact OK_some ⟨fun a j h => by show (xput s 184 7 2) a j = _; rw [xput_ne (by omega)]; exact g4 a j h, fun h => absurd h (by omega), fun _ => ⟨fun _ => ⟨rfl, (xput_eq : (xput s 184 7 2) 184 7 = 2)⟩, fun h => absurd h (by omega)⟩⟩
theorem hb_of {l : Int} (h2 : σ 118 2 = l) (hl : 0 ≤ l ∧ l ≤ 60) (h3 : -2147483648 ≤ p) (h4 : p < 2147483648) : m_X4_hasBatch 118 p σ = if 0 ≤ p ∧ p < l then 1 else 0 := by
  unfold m_X4_hasBatch
  rw [h2, zI_of h3 h4, zI_of (by omega) (by omega)]
  by_cases c : p < 0
  · rw [if_pos c, if_neg (by omega)]
  · rw [if_neg c]
    by_cases d : l ≤ p
    · rw [if_pos d, if_neg (by omega)]
    · rw [if_neg d, if_pos (by omega)]
/-- what a reference's question leaves keeps all, the law's own array too -/
theorem TI_215 (h : TJ σ β L m B) {v : Int} (hs : rfr7 (xput σ 215 0 v) τ) : TI τ := by
  have hb := bkA_lt (σ 0 3)
  refine ⟨β, L, m, B, TJ_keep h (TP_fr h.1 (fun a j hj => ?_)) (fun a j hj => ?_)⟩
  · rw [hs a j (by omega), xput_ne (by omega)]
  · rw [hs a j (by omega), xput_ne (by omega)]
theorem TI_rfr7 (h : TJ σ β L m B) (hs : rfr7 σ τ) : TI τ := by
  have hb := bkA_lt (σ 0 3)
  exact ⟨β, L, m, B, TJ_keep h (TP_fr h.1 (fun a j hj => hs a j (by omega))) (fun a j hj => hs a j (by omega))⟩
theorem q_batchDough (h : TJ σ β L m B) (hn : 4000000 ≤ n) (h1 : -2147483648 ≤ p) (h2 : p < 2147483648) : ∃ e : Int ⊕ String, (∀ q, e = .inr q → q = XIS ∨ q = XIB) ∧ (∀ l : Launch, l.stackTraces = false → ∀ E : xE, E.2.1.2.2 9 0 ≠ 0 → xMeX l E yX12_batchDough cX12_batchDough 2 (some .int) rmT [.ref (xqa E.2.2 0), iV p] WW σ (xE1 e σ)) ∧ ∃ y υ, m_X13_batchDough n p (xE2 e σ) = some (y, υ) ∧ TI υ ∧ xE3 e y υ := by
  have hT := h.1.1
  have h5 := NT_h5 hT
  obtain ⟨-, hβ, hV, h4⟩ := hT
  rcases h4 with ⟨z1, z2⟩ | ⟨z1, z2, h60, hf, hRF⟩
  · have e0 : zI (σ 0 8) = 0 := by rw [z1]; decide
    refine ⟨.inr XIS, fun q hq => by cases hq; exact Or.inl rfl, fun l hlt E hE => ct_X12_batchDough hlt hE (fun _ => rfl) (fun c => absurd e0 c) (fun c => absurd e0 c), ?_⟩
    obtain ⟨⟨v, s⟩, hr, g1, g2, -⟩ := r_isBatch (n := n) hβ hV h5 hn h1 h2
    obtain ⟨g2, g3⟩ := g2 z2
    dsimp only at g1 g2 g3
    refine ⟨0, s, ?_, TI_rfr7 h g1, g3⟩
    unfold m_X13_batchDough
    rw [hr]
    show (xj (fun (q5 : Int) => some (q5, s)) fun J3 => if (zI v) = 0 then J3 0 else xck (zI p) 60 <| J3 (s 192 (zI p).toNat)) = _
    rw [xj_eq, g2, zI_of (by omega) (by omega), if_pos rfl]
  · have e0 : ¬ zI (σ 0 8) = 0 := by rw [z1]; decide
    have hP := prm_V hV h60
    have h6 : (bl β).length ≤ 60 := hP.2.2.1
    obtain ⟨⟨r0, r2, rd, rb, rc, ro⟩, -, -⟩ := hRF
    have hbB := hb_of (p := p) r2 (by omega) h1 h2
    by_cases c : 0 ≤ p ∧ p < ((bl β).length : Int)
    · rw [if_pos c] at hbB
      obtain ⟨i, rfl⟩ : ∃ i : Nat, p = (i : Int) := ⟨p.toNat, by omega⟩
      have ez : zI (i : Int) = (i : Int) := zI_of (by omega) (by omega)
      refine ⟨.inl (σ (118 + 1) (zI (i : Int)).toNat), (fun q hq => by cases hq), (fun l hlt E hE => ct_X12_batchDough hlt hE (fun c => absurd c e0) (fun _ c => by rw [hbB] at c; exact absurd c (by decide)) (fun _ _ => ⟨by rw [ez]; omega, rfl⟩)), ?_⟩
      obtain ⟨⟨v, s⟩, hr, g1, -, g2⟩ := r_isBatch (n := n) (σ := xput σ 215 0 (zI (σ (118 + 1) (zI (i : Int)).toNat))) (β := β) (by rw [xput_ne1 (by omega)]; exact hβ) hV (by rw [xput_ne (by omega)]; exact h5) hn h1 h2
      obtain ⟨g2, g3, hG, hF⟩ := (g2 (by rw [xput_ne (by omega)]; exact z2)).2 c
      dsimp only at g1 g2 g3 hG
      have ed : s 192 i = σ (118 + 1) i := by rw [(hG.2.1 i (by omega)).1, rd i (by omega)]
      refine ⟨s 192 i, s, ?_, TI_215 h g1, g3, ?_, ?_⟩
      · unfold m_X13_batchDough
        show xbS (m_X13_isBatch n (i : Int) (xput σ 215 0 (zI (σ (118 + 1) (zI (i : Int)).toNat)))) _ = _
        rw [hr]
        show (xj (fun (q5 : Int) => some (q5, s)) fun J3 => if (zI v) = 0 then J3 0 else xck (zI (i : Int)) 60 <| J3 (s 192 (zI (i : Int)).toNat)) = _
        rw [xj_eq, g2, zI_of (n := 1) (by omega) (by omega), if_neg (by omega), ez, xck_of (by omega) (by omega), tn_cast]
      · rw [g1 215 0 (by omega), xput_eq]
      · rw [ed, ez, tn_cast]
    · rw [if_neg c] at hbB
      refine ⟨.inr XIB, fun q hq => by cases hq; exact Or.inr rfl, fun l hlt E hE => ct_X12_batchDough hlt hE (fun c => absurd c e0) (fun _ _ => rfl) (fun _ c => absurd hbB c), ?_⟩
      obtain ⟨⟨v, s⟩, hr, g1, -, g2⟩ := r_isBatch (n := n) hβ hV h5 hn h1 h2
      obtain ⟨g2, g3⟩ := (g2 z2).1 c
      dsimp only at g1 g2 g3
      refine ⟨0, s, ?_, TI_rfr7 h g1, g3⟩
      unfold m_X13_batchDough
      rw [hr]
      show (xj (fun (q5 : Int) => some (q5, s)) fun J3 => if (zI v) = 0 then J3 0 else xck (zI p) 60 <| J3 (s 192 (zI p).toNat)) = _
      rw [xj_eq, g2, zI_of (by omega) (by omega), if_pos rfl]
end QTH
