/-! the top invariant; a recorded change keeps it -/
section TOP1
variable {σ τ s x y y0 : xS} {n m b L : Nat} {β γ δ : Nat → Int} {B : Nat → Nat → Int}
/-- the histories of both -/
def HI (σ : xS) (β : Nat → Int) (m : Nat) (B : Nat → Nat → Int) : Prop := m ≤ 12 ∧ B m = β ∧ σ 114 3 = (m : Int) ∧ σ 184 4 = (m : Int) ∧ ∀ i, i < m → (∀ j, j < 289 → σ 188 (289 * i + j) = B i j) ∧ HE (σ 115 i) (σ 116 i) (σ 117 i) (B (i + 1)) (B i)
/-- buffers, faults, the two bakeries of the class -/
def BF (σ : xS) (L : Nat) : Prop := σ 0 1 = (L : Int) ∧ σ 184 9 = (L : Int) ∧ L ≤ 1600 ∧ σ 1 = σ 189 ∧ ∀ q, -128 ≤ σ 189 q ∧ σ 189 q ≤ 127
def EF (σ : xS) : Prop := σ 2 7 = σ 184 12 ∧ σ 2 8 = σ 184 13 ∧ (0 ≤ σ 184 12 ∧ σ 184 12 ≤ 5) ∧ -1 ≤ σ 184 13 ∧ σ 184 13 ≤ 1600
def FF (σ : xS) : Prop := (σ 0 3 = 0 ∧ σ 0 4 = 1) ∨ (σ 0 3 = 1 ∧ σ 0 4 = 0)
/-- class and reference agree -/
def TJ (σ : xS) (β : Nat → Int) (L m : Nat) (B : Nat → Nat → Int) : Prop := TP σ β ∧ V0 β ∧ HI σ β m B ∧ BF σ L ∧ EF σ ∧ FF σ
def TI (σ : xS) : Prop := ∃ β L m B, TJ σ β L m B
/-- a call answered the same way by both -/
def CALL (c : Option (Int × xS)) (r : xS → Option (Int × xS)) : Prop := OK c (fun x => (-2147483648 ≤ x.1 ∧ x.1 < 2147483648) ∧ OK (r x.2) (fun y => y.1 = x.1 ∧ TI y.2))
def CALLI (σ : xS) (c : Option Int) (r : Option (Int × xS)) : Prop := ∃ v, c = some v ∧ -2147483648 ≤ v ∧ v < 2147483648 ∧ OK r (fun x => x.1 = v ∧ TI x.2)
/-- what no question changes -/
def kfr (σ τ : xS) : Prop := ∀ a j, ((114 ≤ a ∧ a ≤ 117) ∨ a = 188 ∨ a = 189 ∨ a = 1 ∨ a = 2 ∨ (a = 0 ∧ (j = 1 ∨ j = 3 ∨ j = 4)) ∨ (a = 184 ∧ (j = 4 ∨ j = 9 ∨ j = 12 ∨ j = 13))) → τ a j = σ a j
theorem TJ_keep (h : TJ σ β L m B) (hT : TP τ β) (hk : kfr σ τ) : TJ τ β L m B := by
  obtain ⟨-, h0, ⟨i1, i2, i3, i4, i5⟩, ⟨f1, f2, f3, f4, f5⟩, ⟨e1, e2, e3, e4⟩, hF⟩ := h
  refine ⟨hT, h0, ⟨i1, i2, by rw [hk _ _ (by omega)]; exact i3, by rw [hk _ _ (by omega)]; exact i4, fun i hi => ⟨fun j hj => by rw [hk _ _ (by omega)]; exact (i5 i hi).1 j hj, by rw [hk _ _ (by omega), hk _ _ (by omega), hk _ _ (by omega)]; exact (i5 i hi).2⟩⟩, ⟨by rw [hk _ _ (by omega)]; exact f1, by rw [hk _ _ (by omega)]; exact f2, f3, ?_, fun q => by rw [hk _ _ (by omega)]; exact f5 q⟩, ⟨?_, ?_, ?_, ?_⟩, ?_⟩
  · funext q
    rw [hk _ _ (by omega), hk 189 _ (by omega), f4]
  · rw [hk _ _ (by omega), hk 184 _ (by omega)]; exact e1
  · rw [hk _ _ (by omega), hk 184 _ (by omega)]; exact e2
  · rw [hk _ _ (by omega)]; exact e3
  · rw [hk _ _ (by omega)]; exact e4
  · unfold FF
    rw [hk _ _ (by omega), hk 0 4 (by omega)]; exact hF
theorem CALL_3 {c : Option (Int × xS)} {r : xS → Option (Int × xS)} (h : TJ σ β L m B) (hb : BOTH3 σ β c r) : CALL c r := by
  refine OK_mono hb fun x hx => ⟨hx.1, OK_mono hx.2.2.2 fun y hy => ⟨hy.1, β, L, m, B, ?_⟩⟩
  refine TJ_keep h (TP_rfr8 hx.2.2.1 hy.2.2) (fun a j hj => ?_)
  rw [hy.2.2 a j (by omega)]
  exact hx.2.1 a j (by omega) (by omega) (by omega) (by omega)
theorem CALL_8 {c : Option Int} {r : Option (Int × xS)} (h : TJ σ β L m B) (hb : SAME8 σ c r) : CALLI σ c r := by
  obtain ⟨v, h1, h2, h3, h4⟩ := hb
  exact ⟨v, h1, h2, h3, OK_mono h4 fun y hy => ⟨hy.1, β, L, m, B, TJ_keep h (TP_rfr8 h.1 hy.2.2) (fun a j hj => hy.2.2 a j (by omega))⟩⟩
/-- what a record leaves of the class, its night dropped -/
def CHz (s x : xS) (m : Nat) (K I B : Int) : Prop := x 114 3 = (mnF m : Int) + 1 ∧ (∀ i, i < mnF m → x 115 i = s 115 (i + shM m) ∧ x 116 i = s 116 (i + shM m) ∧ x 117 i = s 117 (i + shM m)) ∧ (x 115 (mnF m) = K ∧ x 116 (mnF m) = I ∧ x 117 (mnF m) = B) ∧ x 0 8 = 0 ∧ ∀ k j, ¬ (114 ≤ k ∧ k ≤ 117) → ¬ (k = 0 ∧ j = 8) → x k j = s k j
theorem c_record {K I Bv : Int} (hm : m ≤ 12) (h3 : s 114 3 = (m : Int)) : OK (m_X12_recordChange K I Bv s) (fun x => CHz s x m K I Bv) := by
  unfold m_X12_recordChange
  refine OK_bind (c_add hm h3) fun s1 h => ?_
  obtain ⟨g1, g2, ⟨g3, g4, g5⟩, g6⟩ := h
  unfold m_X12_dropNight
  rw [xlet_eq, bind_some']
  refine OK_some ⟨by rw [xput_ne (by omega)]; exact g1, fun i hi => ⟨by rw [xput_ne (by omega)]; exact (g2 i hi).1, by rw [xput_ne (by omega)]; exact (g2 i hi).2.1, by rw [xput_ne (by omega)]; exact (g2 i hi).2.2⟩, ⟨by rw [xput_ne (by omega)]; exact g3, by rw [xput_ne (by omega)]; exact g4, by rw [xput_ne (by omega)]; exact g5⟩, xput_eq, fun k j c1 c2 => by rw [xput_ne c2]; exact g6 k j (by omega) (by omega)⟩
/-- class and reference behind a recorded change: s is the class behind the change itself, x behind the record; y0 the reference behind the record, y behind the change -/
theorem chg_TI {K I Bv : Int} (h : TJ σ β L m B) (hV : V δ) (h0 : V0 δ) (hE : HE K I Bv δ β) (hBs : Bk s (bkA (σ 0 3)) δ 0) (hRs : RD s (bkA (σ 0 3) + 39) δ) (hf : ∀ k j, ¬ (bkA (σ 0 3) ≤ k ∧ k < bkA (σ 0 3) + 54) → s k j = σ k j) (hz : CHz s x m K I Bv) (hr : RCr (xput x 184 7 0) y0 m) (hy : ∀ k j, k ≠ 185 → y k j = y0 k j) (hδ : y 185 = δ) : TI y := by
  obtain ⟨⟨⟨tB, tβ, tV, tN⟩, tR, tP, t50⟩, h0β, ⟨i1, i2, i3, i4, i5⟩, ⟨f1, f2, f3, f4, f5⟩, ⟨e1, e2, e3, e4⟩, hF⟩ := h
  have hb := bk_two (σ 0 3)
  have hmn := mn_sh i1
  obtain ⟨z1, z2, ⟨z3, z4, z5⟩, z6, z7⟩ := hz
  obtain ⟨r1, r2, r3, r4, r5⟩ := hr
  have hfy : ∀ k j, ¬ (bkA (σ 0 3) ≤ k ∧ k < bkA (σ 0 3) + 54) → ¬ (114 ≤ k ∧ k ≤ 117) → ¬ (k = 0 ∧ j = 8) → k ≠ 185 → k ≠ 188 → ¬ (k = 184 ∧ (j = 4 ∨ j = 5 ∨ j = 7)) → y k j = σ k j := fun k j c1 c2 c3 c4 c5 c6 => by
    rw [hy k j c4, r5 k j c5 (by omega), xput_ne (by omega), z7 k j c2 c3, hf k j c1]
  have hfx : ∀ k j, k < 184 → y k j = x k j := fun k j c => by
    rw [hy k j (by omega), r5 k j (by omega) (by omega), xput_ne (by omega)]
  have hfb : ∀ k j, bkA (σ 0 3) ≤ k → k < bkA (σ 0 3) + 54 → y k j = s k j := fun k j c1 c2 => by
    rw [hfx k j (by omega), z7 k j (by omega) (by omega)]
  have e03 : y 0 3 = σ 0 3 := hfy _ _ (by omega) (by omega) (by omega) (by omega) (by omega) (by omega)
  have e08 : y 0 8 = 0 := by rw [hfx _ _ (by omega)]; exact z6
  refine ⟨δ, L, mnF m + 1, fun i => if i < mnF m + 1 then B (i + shM m) else δ, ⟨⟨?_, hδ, hV, Or.inl ⟨e08, ?_⟩⟩, ?_, ?_, ?_⟩, h0, ⟨by omega, by dsimp only; rw [if_neg (by omega)], ?_, ?_, fun i hi => ⟨fun j hj => ?_, ?_⟩⟩, ⟨?_, ?_, f3, ?_, ?_⟩, ⟨?_, ?_, ?_, ?_⟩, ?_⟩
  · rw [e03]
    exact Bk_same hBs hV (fun k j c1 c2 => hfb k j c1 c2)
  · rw [hy _ _ (by omega)]
    exact r2
  · rw [e03]
    exact RD_same hRs (fun a j c1 c2 => hfb a j (by omega) (by omega))
  · intro h8
    rw [e08] at h8
    exact absurd h8 (by omega)
  · rw [hfy _ _ (by omega) (by omega) (by omega) (by omega) (by omega) (by omega)]
    exact t50
  · rw [hfx _ _ (by omega), z1]
    omega
  · rw [hy _ _ (by omega), r1]
    omega
  · dsimp only
    rw [if_pos hi]
    by_cases c : i < mnF m
    · rw [hy _ _ (by omega), r3 i j c hj, xput_ne (by omega), z7 _ _ (by omega) (by omega), hf _ _ (by omega)]
      exact (i5 (i + shM m) (by omega)).1 j hj
    · have ei : i = mnF m := by omega
      subst ei
      rw [hy _ _ (by omega), r4 j hj, xput_ne (by omega), z7 _ _ (by omega) (by omega), hf _ _ (by omega), tβ, hmn.1, i2]
  · dsimp only
    rw [if_pos hi, hfx _ _ (by omega), hfx _ _ (by omega), hfx _ _ (by omega)]
    by_cases c : i < mnF m
    · obtain ⟨q1, q2, q3⟩ := z2 i c
      rw [if_pos (by omega), q1, q2, q3, hf _ _ (by omega), hf _ _ (by omega), hf _ _ (by omega), show i + 1 + shM m = i + shM m + 1 by omega]
      exact (i5 (i + shM m) (by omega)).2
    · have ei : i = mnF m := by omega
      subst ei
      rw [if_neg (by omega), z3, z4, z5, hmn.1, i2]
      exact hE
  · rw [hfy _ _ (by omega) (by omega) (by omega) (by omega) (by omega) (by omega)]; exact f1
  · rw [hfy _ _ (by omega) (by omega) (by omega) (by omega) (by omega) (by omega)]; exact f2
  · funext q
    rw [hfy _ _ (by omega) (by omega) (by omega) (by omega) (by omega) (by omega), hfy 189 _ (by omega) (by omega) (by omega) (by omega) (by omega) (by omega), f4]
  · intro q
    rw [hfy _ _ (by omega) (by omega) (by omega) (by omega) (by omega) (by omega)]; exact f5 q
  · rw [hfy _ _ (by omega) (by omega) (by omega) (by omega) (by omega) (by omega), hfy 184 _ (by omega) (by omega) (by omega) (by omega) (by omega) (by omega)]; exact e1
  · rw [hfy _ _ (by omega) (by omega) (by omega) (by omega) (by omega) (by omega), hfy 184 _ (by omega) (by omega) (by omega) (by omega) (by omega) (by omega)]; exact e2
  · rw [hfy _ _ (by omega) (by omega) (by omega) (by omega) (by omega) (by omega)]; exact e3
  · rw [hfy _ _ (by omega) (by omega) (by omega) (by omega) (by omega) (by omega)]; exact e4
  · unfold FF
    rw [e03, hfy 0 4 (by omega) (by omega) (by omega) (by omega) (by omega) (by omega)]
    exact hF
end TOP1
