/-! one thing more: the bakery improved, the trial row -/
section LA2
variable {σ τ : xS} {k n i b : Nat} {β γ : Nat → Int} {e f : Int}
/-- the ways depend on the streets alone -/
theorem ds_congr (h : ∀ i, (i = 7 ∨ (86 ≤ i ∧ i < 166)) → γ i = β i) (hV : V β) : dsF γ = dsF β := by
  have v7 := hV.2.2.2.2.2.2.2.1
  have key : ∀ s, s ≤ 20 → bsF γ s = bsF β s := fun s => by
    induction s with
    | zero => intro _; rfl
    | succ s ih =>
      intro hs
      have e : ∀ w, w < 4 → stF γ s w = stF β s w := fun w hw => h _ (by omega)
      rw [bsF, bsF, ih (by omega), e 0 (by omega), e 1 (by omega), e 2 (by omega), e 3 (by omega)]
  unfold dsF
  rw [h 7 (by omega), key _ (by omega)]
/-- a bakery as a text and changes make it -/
def V0 (β : Nat → Int) : Prop := β 0 ≤ 40 ∧ β 2 ≤ 4 ∧ β 3 ≤ 4 ∧ ∀ o : Nat, (o : Int) < β 5 → ovF β o 0 ≤ 6
/-- the improved row (c: the change); behind it what is there -/
def imF (β ρ : Nat → Int) (c : Int) (i : Nat) : Int := if i < 289 then (if (c = 0 ∧ i = 2) ∨ (c = 1 ∧ i = 3) ∨ (c = 2 ∧ i = 0) ∨ (c = 3 ∧ 70 ≤ i ∧ i < 70 + 4 * (β 5).toNat ∧ i % 4 = 2) then β i + 1 else β i) else ρ i
theorem imF_id {ρ : Nat → Int} {c : Int} (hi : i < 289) (h : i ≠ 0 ∧ i ≠ 2 ∧ i ≠ 3 ∧ ¬ (70 ≤ i ∧ i < 70 + 4 * (β 5).toNat ∧ i % 4 = 2)) : imF β ρ c i = β i := by
  unfold imF
  rw [if_pos hi, if_neg (by omega)]
/-- what an improvement adds (m: how many ovens) -/
def dlF (b : Nat) (c : Int) (m k j : Nat) (a : Int) : Int := if c = 0 ∧ k = b ∧ j = 2 then a else if c = 1 ∧ k = b ∧ j = 3 then a else if c = 2 ∧ k = b ∧ j = 0 then a else if c = 3 ∧ b + 9 ≤ k ∧ k < b + 9 + m ∧ j = 0 then a else if c = 4 ∧ k = b + 38 ∧ j = 0 then a * 1000000 else 0
theorem c_improve {c a : Int} {m : Nat} (hc : 0 ≤ c ∧ c ≤ 4) (h7 : σ b 7 = (m : Int)) (hm : m ≤ 4) (hn : 4000000 ≤ n) : OK (m_X1_improve n b c a σ) (fun τ => ∀ k j, τ k j = σ k j + dlF b c m k j a) := by
  unfold m_X1_improve
  rw [xj_eq, zI_of (by omega) (by omega)]
  have one : ∀ (K J : Nat) (w : Int), (∀ k j, dlF b c m k j a = if k = K ∧ j = J then w else 0) → OK (some (xput σ K J (σ K J + w))) (fun τ => ∀ k j, τ k j = σ k j + dlF b c m k j a) := fun K J w h => OK_some fun k j => by
    rw [h k j]
    by_cases q : k = K ∧ j = J
    · rw [q.1, q.2, xput_eq, if_pos ⟨rfl, rfl⟩]
    · rw [xput_ne q, if_neg q]
      omega
  by_cases c0 : c = 0
  · rw [if_pos c0, xlet_eq]
    exact one b 2 a fun k j => by
      unfold dlF
      by_cases q : k = b ∧ j = 2
      · rw [if_pos ⟨c0, q⟩, if_pos q]
      · rw [if_neg (fun z => q z.2), if_neg (by omega), if_neg (by omega), if_neg (by omega), if_neg (by omega), if_neg q]
  · rw [if_neg c0]
    by_cases c1 : c = 1
    · rw [if_pos c1, xlet_eq]
      exact one b 3 a fun k j => by
        unfold dlF
        rw [if_neg (by omega)]
        by_cases q : k = b ∧ j = 3
        · rw [if_pos ⟨c1, q⟩, if_pos q]
        · rw [if_neg (fun z => q z.2), if_neg (by omega), if_neg (by omega), if_neg (by omega), if_neg q]
    · rw [if_neg c1]
      by_cases c2 : c = 2
      · rw [if_pos c2, xlet_eq]
        exact one b 0 a fun k j => by
          unfold dlF
          rw [if_neg (by omega), if_neg (by omega)]
          by_cases q : k = b ∧ j = 0
          · rw [if_pos ⟨c2, q⟩, if_pos q]
          · rw [if_neg (fun z => q z.2), if_neg (by omega), if_neg (by omega), if_neg q]
      · rw [if_neg c2]
        by_cases c3 : c = 3
        · rw [if_pos c3]
          refine loop_for m (fun i (t : Int × xS) => t.1 = (i : Int) ∧ ∀ k j, t.2 k j = σ k j + (if b + 9 ≤ k ∧ k < b + 9 + i ∧ j = 0 then a else 0)) ?_ ?_ (by omega) ⟨rfl, fun k j => by rw [if_neg (by omega)]; exact (Int.add_zero _).symm⟩
          · rintro i ⟨u, t⟩ hi ⟨g1, g2⟩ rec hrec
            dsimp only at g1 g2 hrec ⊢
            subst g1
            have e7 : t b 7 = (m : Int) := by rw [g2, if_neg (by omega), h7]; omega
            simp only [e7]
            rw [zI_of (n := (m : Int)) (by omega) (by omega), zI_of (n := (i : Int)) (by omega) (by omega), if_neg (by omega), xck_of (by omega) (by omega), xlet_eq, xlet_eq, tn_cast]
            refine hrec _ ⟨by (try dsimp only); omega, fun k j => ?_⟩
            dsimp only
            by_cases q : k = b + 9 + i ∧ j = 0
            · rw [q.1, q.2, xput_eq, g2, if_neg (by omega), if_pos (by omega)]
              omega
            · rw [xput_ne q, g2]
              by_cases q2 : b + 9 ≤ k ∧ k < b + 9 + i ∧ j = 0
              · rw [if_pos q2, if_pos (by omega)]
              · rw [if_neg q2, if_neg (by omega)]
          · rintro ⟨u, t⟩ ⟨g1, g2⟩ rec
            dsimp only at g1 g2 ⊢
            subst g1
            have e7 : t b 7 = (m : Int) := by rw [g2, if_neg (by omega), h7]; omega
            simp only [e7]
            rw [if_pos (Int.le_refl _)]
            refine OK_some fun k j => ?_
            rw [g2]
            unfold dlF
            repeat' split
            all_goals omega
        · rw [if_neg c3, xck_of (by omega) (by omega), xck_of (by omega) (by omega), xlet_eq, tn_lit.1]
          have c4 : c = 4 := by omega
          exact one (b + 38) 0 (a * 1000000) fun k j => by
            unfold dlF
            rw [if_neg (by omega), if_neg (by omega), if_neg (by omega), if_neg (by omega)]
            by_cases q : k = b + 38 ∧ j = 0
            · rw [if_pos ⟨c4, q⟩, if_pos q]
            · rw [if_neg (fun z => q z.2), if_neg q]
/-- the class's bakery improved -/
theorem c_improved {ρ : Nat → Int} {c : Int} (hc : 0 ≤ c ∧ c ≤ 4) (hB : Bk σ b β 0) (hV : V β) (ht : ∀ k j, τ k j = σ k j + dlF b c (β 5).toNat k j 1) : Bk τ b (imF β ρ c) (if c = 4 then 1000000 else 0) := by
  obtain ⟨b0, b1, b2, b3, b4, b5, b6, b7, b8, b9, bd, bo, bs, bv, br⟩ := hB
  obtain ⟨v0, v1, v2, v3, v4, v5, v6, v7, v8, v9, vd, vo, vs, vv, vr⟩ := hV
  have g : ∀ i, i < 289 → (i ≠ 0 ∧ i ≠ 2 ∧ i ≠ 3 ∧ ¬ (70 ≤ i ∧ i < 86)) → imF β ρ c i = β i := fun i hi h => imF_id hi (by omega)
  have g5 := g 5 (by omega) (by omega)
  have g4 := g 4 (by omega) (by omega)
  have g7 := g 7 (by omega) (by omega)
  have g8 := g 8 (by omega) (by omega)
  have g9 := g 9 (by omega) (by omega)
  have z : ∀ k j, (k = b → j ≠ 0 ∧ j ≠ 2 ∧ j ≠ 3) → ¬ (b + 9 ≤ k ∧ k < b + 13 ∧ j = 0) → ¬ (k = b + 38 ∧ j = 0) → τ k j = σ k j := fun k j h1 h2 h3 => by
    rw [ht]
    unfold dlF
    rw [if_neg (by omega), if_neg (by omega), if_neg (by omega), if_neg (by omega), if_neg (by omega)]
    omega
  refine ⟨?_, by rw [z _ _ (by omega) (by omega) (by omega), g 1 (by omega) (by omega)]; exact b1, ?_, ?_, by rw [z _ _ (by omega) (by omega) (by omega), g4]; exact b4, by rw [z _ _ (by omega) (by omega) (by omega), g5]; exact b5, by rw [z _ _ (by omega) (by omega) (by omega), g 6 (by omega) (by omega)]; exact b6, by rw [z _ _ (by omega) (by omega) (by omega), g7]; exact b7, by rw [z _ _ (by omega) (by omega) (by omega), g8]; exact b8, by rw [z _ _ (by omega) (by omega) (by omega), g9]; exact b9, fun d hd w hw => ?_, fun o ho w hw => ?_, fun s hs => ?_, fun v hv => ?_, fun o ho w hw => ?_⟩
  · rw [ht, b0]
    unfold dlF imF
    repeat' split
    all_goals omega
  · rw [ht, b2]
    unfold dlF imF
    repeat' split
    all_goals omega
  · rw [ht, b3]
    unfold dlF imF
    repeat' split
    all_goals omega
  · rw [g4] at hd
    rw [z _ _ (by omega) (by omega) (by omega), show dF (imF β ρ c) d w = dF β d w from g _ (by omega) (by omega)]
    exact bd d hd w hw
  · rw [g5] at ho
    rw [ht, bo o ho w hw]
    show ovF β o w + dlF b c (β 5).toNat (b + 9 + o) w 1 = imF β ρ c (70 + 4 * o + w)
    have hx : ovF β o w = β (70 + 4 * o + w) := rfl
    unfold dlF imF
    repeat' split
    all_goals omega
  · rw [g7] at hs
    have e : ∀ w, w < 4 → stF (imF β ρ c) s w = stF β s w := fun w hw => g _ (by omega) (by omega)
    rw [e 0 (by omega), e 1 (by omega), e 2 (by omega), e 3 (by omega), z _ _ (by omega) (by omega) (by omega), z _ _ (by omega) (by omega) (by omega), z _ _ (by omega) (by omega) (by omega), z _ _ (by omega) (by omega) (by omega)]
    exact bs s hs
  · rw [g8] at hv
    rw [ht, bv v hv, show vnF (imF β ρ c) v = vnF β v from g _ (by omega) (by omega)]
    unfold dlF
    repeat' split
    all_goals omega
  · rw [g9] at ho
    rw [z _ _ (by omega) (by omega) (by omega), show oF (imF β ρ c) o w = oF β o w from g _ (by omega) (by omega)]
    exact br o ho w hw
end LA2
