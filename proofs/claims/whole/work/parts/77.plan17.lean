/-! the best plan taken up again by the reference; the class's best plan when it is asked for -/
section PLH
variable {σ τ : xS} {k n i : Nat} {β γ : Nat → Int} {e f : Int}
/-- the reference's best plan, taken up -/
def HB (τ : xS) (β : Nat → Int) (f : Int) : Prop := (srvF β (Mf (prm β)).1 = 0 ∨ v1 (β 8).toNat = (β 8).toNat) ∧ AV τ (PX β β 0 0 1000000) (qB (PX β β 0 f 1439)).toNat ∧ (∀ v, v < 3 → τ 211 v = (qG (PX β β 0 0 1000000) (qB (PX β β 0 f 1439)).toNat v : Int)) ∧ BR τ (PX β β 0 0 1000000) f (qB (PX β β 0 f 1439)) ∧ RP τ 185 (PX β β 0 0 1000000)
theorem r_takesBest {B : Nat} (hR : RP σ 185 (PX β β 0 0 1000000)) (hP : PPV (PX β β 0 0 1000000)) (hb : ∀ s, s < 7 → σ 214 s = if (srvF β (Mf (prm β)).1).testBit s = true then (qA (PX β β 0 0 1000000) B s : Int) else -1) (hok : qOk (PX β β 0 0 1000000) B) (hv : srvF β (Mf (prm β)).1 = 0 ∨ v1 (β 8).toNat = (β 8).toNat) (hn : 4000000 ≤ n) :
    OK (m_X13_takesBest n σ) (fun τ => AV τ (PX β β 0 0 1000000) B ∧ (∀ v, v < 3 → τ 211 v = (qG (PX β β 0 0 1000000) B v : Int)) ∧ ∀ a j, a ≠ 207 → a ≠ 211 → a ≠ 213 → ¬ (a = 184 ∧ j = 42) → τ a j = σ a j) := by
  have hV3 : v1 (β 8).toNat ≤ 3 := v1_le hP.2.2.2.1
  unfold m_X13_takesBest
  refine loop_for 3 (fun i (t : Int × xS) => t.1 = (i : Int) ∧ (∀ v, v < i → t.2 211 v = 0) ∧ ∀ a j, a ≠ 211 → t.2 a j = σ a j) ?_ ?_ (by omega) ⟨rfl, fun v hv => absurd hv (Nat.not_lt_zero _), fun _ _ _ => rfl⟩
  · rintro i ⟨u, t⟩ hi ⟨h1, h2, h3⟩ rec hrec
    dsimp only at h1 h2 h3 hrec ⊢
    subst h1
    rw [zI_of (n := (i : Int)) (by omega) (by omega), if_neg (by omega), xck_of (by omega) (by omega), xlet_eq, xlet_eq, tn_cast]
    refine hrec _ ⟨by (try dsimp only); omega, fun v hv => ?_, fun a j c1 => ?_⟩
    · dsimp only
      by_cases c : v = i
      · rw [c, xput_eq]
      · rw [xput_ne (by omega)]
        exact h2 v (by omega)
    · dsimp only
      rw [xput_ne (by omega)]
      exact h3 a j c1
  · rintro ⟨u, t⟩ ⟨h1, h2, h3⟩ rec
    dsimp only at h1 h2 h3 ⊢
    subst h1
    rw [zI_of (n := ((3 : Nat) : Int)) (by omega) (by omega), if_pos (by omega)]
    refine loop_for 7 (fun i (t' : Int × xS) => t'.1 = (i : Int) ∧ (∀ v, v < 3 → t'.2 211 v = (b7 (fun s => ((srvF β (Mf (prm β)).1).testBit s && decide (qA (PX β β 0 0 1000000) B s = v)) && decide (s < i)) : Int)) ∧ ∀ a j, a ≠ 211 → t'.2 a j = σ a j) ?_ ?_ (by omega) ⟨rfl, fun v hv => ?_, h3⟩
    · rintro i ⟨u, y⟩ hi ⟨g1, g2, g3⟩ rec1 hrec1
      dsimp only at g1 g2 g3 hrec1 ⊢
      subst g1
      have e14 : y 214 i = if (srvF β (Mf (prm β)).1).testBit i = true then (qA (PX β β 0 0 1000000) B i : Int) else -1 := by rw [g3 _ _ (by omega)]; exact hb i hi
      have hal : qA (PX β β 0 0 1000000) B i < v1 (β 8).toNat := qA_lt B i
      rw [zI_of (n := (i : Int)) (by omega) (by omega), if_neg (by omega), xck_of (by omega) (by omega), xj_eq]
      simp only [tn_cast, e14]
      by_cases t1 : (srvF β (Mf (prm β)).1).testBit i = true
      · simp only [if_pos t1]
        generalize hAA : qA (PX β β 0 0 1000000) B i = A at hal
        have hbl : b7 (fun s => ((srvF β (Mf (prm β)).1).testBit s && decide (qA (PX β β 0 0 1000000) B s = A)) && decide (s < i)) < 128 := b7_lt _
        rw [zI_of (n := (A : Int)) (by omega) (by omega), if_neg (by omega), xck_of (by omega) (by omega), xck_of (by omega) (by omega), xck_of (by omega) (by omega), tn_cast, xlet_eq, g2 A (by omega), or_of hbl hi]
        simp only [xlet_eq]
        refine hrec1 _ ⟨by (try dsimp only); omega, fun v hv => ?_, fun a j c1 => ?_⟩
        · dsimp only
          by_cases d : v = A
          · subst d
            rw [xput_eq]
            congr 1
            refine bits_eq (or_lt hbl hi) (b7_lt _) fun s hs => ?_
            rw [or_bit, b7_bit _ hs, b7_bit _ hs]
            by_cases d : s = i
            · subst d
              rw [t1, hAA, decide_eq_true (show s < s + 1 by omega)]
              simp
            · by_cases d2 : s < i
              · rw [decide_eq_true d2, decide_eq_true (show s < i + 1 by omega), decide_eq_false (show ¬ i = s from fun z => d z.symm), Bool.or_false]
              · rw [decide_eq_false d2, decide_eq_false (show ¬ s < i + 1 by omega), decide_eq_false (show ¬ i = s from fun z => d z.symm), Bool.or_false]
          · rw [xput_ne (by omega), g2 v hv]
            congr 1
            refine b7_congr fun s hs => ?_
            by_cases d1 : s = i
            · subst d1
              rw [hAA, decide_eq_false (show ¬ A = v from fun z => d z.symm), Bool.and_false, Bool.false_and, Bool.false_and]
            · by_cases d2 : s < i
              · rw [decide_eq_true d2, decide_eq_true (show s < i + 1 by omega)]
              · rw [decide_eq_false d2, decide_eq_false (show ¬ s < i + 1 by omega)]
        · dsimp only
          rw [xput_ne (by omega)]
          exact g3 a j c1
      · simp only [if_neg t1]
        rw [zI_of (n := -1) (by omega) (by omega), if_pos rfl]
        simp only [xlet_eq]
        refine hrec1 _ ⟨by (try dsimp only); omega, fun v hv => ?_, g3⟩
        dsimp only
        rw [g2 v hv]
        congr 1
        refine b7_congr fun s hs => ?_
        by_cases d1 : s = i
        · subst d1
          rw [Bool.eq_false_iff.mpr t1, Bool.false_and, Bool.false_and, Bool.false_and]
        · by_cases d2 : s < i
          · rw [decide_eq_true d2, decide_eq_true (show s < i + 1 by omega)]
          · rw [decide_eq_false d2, decide_eq_false (show ¬ s < i + 1 by omega)]
    · rintro ⟨u, y⟩ ⟨g1, g2, g3⟩ rec1
      dsimp only at g1 g2 g3 ⊢
      subst g1
      have hG : ∀ v, v < 3 → y 211 v = (qG (PX β β 0 0 1000000) B v : Int) := fun v hv => by
        rw [g2 v hv]
        congr 1
        show _ = b7 (fun s => (srvF β (Mf (prm β)).1).testBit s && decide (qA (PX β β 0 0 1000000) B s = v))
        refine b7_congr fun s hs => ?_
        rw [decide_eq_true hs, Bool.and_true]
      have hRy : RP y 185 (PX β β 0 0 1000000) := RP_same hR (by omega) (fun a j h => g3 a j (by omega))
      rw [zI_of (n := ((7 : Nat) : Int)) (by omega) (by omega), if_pos (by omega)]
      refine OK_xbS (r_drives (i := B) hRy (by omega) hP hG hn) (fun v s h => ?_)
      obtain ⟨d1, d2⟩ := h
      dsimp only at d1 d2
      rcases d1 with ⟨-, -, d3⟩ | ⟨d3, -⟩
      · refine OK_some ⟨AV_of d3 hv, fun v hv' => by rw [d2 _ _ (by omega) (by omega) (by omega)]; exact hG v hv', fun a j c1 c2 c3 c4 => ?_⟩
        rw [d2 _ _ c1 c3 c4]
        exact g3 a j c2
      · exact absurd hok d3
    · dsimp only
      rw [h2 v hv]
      have : b7 (fun s => ((srvF β (Mf (prm β)).1).testBit s && decide (qA (PX β β 0 0 1000000) B s = v)) && decide (s < 0)) = 0 := bits_eq (b7_lt _) (by omega) fun s hs => by
        rw [b7_bit _ hs, Nat.zero_testBit, decide_eq_false (Nat.not_lt_zero s), Bool.and_false]
      rw [this]
      rfl
theorem r_hasPlan (hI : NI σ 185 β β 0) (h6 : σ 184 6 = f) (hf : 0 ≤ f ∧ f ≤ 1439) (hn : 4000000 ≤ n) :
    OK (m_X13_hasPlan n σ) (fun x => x.1 = (if qB (PX β β 0 f 1439) = -1 then 0 else 1) ∧ x.2 184 46 = (srvF β (Mf (prm β)).1 : Int) ∧ x.2 184 47 = (msF β (Mf (prm β)).1 (β 9).toNat : Int) ∧ (qB (PX β β 0 f 1439) ≠ -1 → HB x.2 β f) ∧ plf σ x.2) := by
  have hI' := hI
  obtain ⟨hk, hs, hA, hVg, hV, h60, hG, he⟩ := hI
  have hP := PX_V (e := 0) (z := 1000000) (f := 0) hA hVg hV h60 (Or.inl rfl) (by omega) (by omega)
  unfold m_X13_hasPlan
  rw [h6]
  refine OK_xbS (r_plans hI' hf hn) (fun v s h => ?_)
  obtain ⟨w1, w2, w3, w4, w5⟩ := h
  dsimp only at w1 w2 w3 w4 w5
  by_cases c : qB (PX β β 0 f 1439) = -1
  · rw [if_pos c] at w1
    subst w1
    rw [zI_of (by omega) (by omega), if_pos rfl]
    exact OK_some ⟨(if_pos c).symm, w2, w3, fun h => absurd c h, w5⟩
  · rw [if_neg c] at w1
    subst w1
    obtain ⟨y1, y2, y3, y4⟩ := w4 c
    rw [zI_of (by omega) (by omega), if_neg (by omega)]
    refine OK_bind (r_takesBest y2 hP (y3.2 c).2 y4 y1 hn) (fun t h => ?_)
    obtain ⟨z1, z2, z3⟩ := h
    have e46 : t 184 46 = (srvF β (Mf (prm β)).1 : Int) := by rw [z3 _ _ (by omega) (by omega) (by omega) (by omega)]; exact w2
    have e47 : t 184 47 = (msF β (Mf (prm β)).1 (β 9).toNat : Int) := by rw [z3 _ _ (by omega) (by omega) (by omega) (by omega)]; exact w3
    have eBR : BR t (PX β β 0 0 1000000) f (qB (PX β β 0 f 1439)) := ⟨by rw [z3 _ _ (by omega) (by omega) (by omega) (by omega)]; exact y3.1, fun q => ⟨by rw [z3 _ _ (by omega) (by omega) (by omega) (by omega)]; exact (y3.2 q).1, fun s hs' => by rw [z3 _ _ (by omega) (by omega) (by omega) (by omega)]; exact (y3.2 q).2 s hs'⟩⟩
    have eRP : RP t 185 (PX β β 0 0 1000000) := RP_same y2 (by omega) (fun a j h => z3 a j (by omega) (by omega) (by omega) (by omega))
    have eF : plf σ t := fun a j c1 c2 => by
      rw [z3 _ _ (by omega) (by omega) (by omega) (by omega)]
      exact w5 a j c1 c2
    exact OK_some ⟨(if_neg c).symm, e46, e47, fun _ => ⟨y1, z1, z2, eBR, eRP⟩, eF⟩
/-- the class's plan of the night from f -/
def PB (σ : xS) (β : Nat → Int) (f : Int) : Prop := GR σ 139 (rdC f β (Mf (prm β)).1 (β 9).toNat) (duC 1439 β (β 9).toNat) (ldC β (β 9).toNat) ∧ σ 139 4 = (msF β (Mf (prm β)).1 (β 9).toNat : Int) ∧ BP σ 139 (PX β β 0 f 1439)
/-- bakery, night, roads and plan of both -/
def TP (σ : xS) (β : Nat → Int) : Prop := NT σ β 0 ∧ RD σ (bkA (σ 0 3) + 39) β ∧ (σ 0 8 = 1 → σ 0 9 = 0 ∨ (σ 0 9 = 1 ∧ PB σ β (σ 184 6))) ∧ σ 184 50 = 0
theorem GR_same {q : Nat} {rd du ld : Nat → Int} (h : GR σ q rd du ld) (hs : ∀ a j, q + 1 ≤ a → a ≤ q + 3 → τ a j = σ a j) : GR τ q rd du ld := fun s hs' => by
  rw [hs _ _ (by omega) (by omega), hs _ _ (by omega) (by omega), hs _ _ (by omega) (by omega)]
  exact h s hs'
theorem BP_same {q : Nat} {P : PP} (h : BP σ q P) (hs : ∀ a j, q ≤ a → a ≤ q + 11 → τ a j = σ a j) : BP τ q P := by
  obtain ⟨⟨h1, h2⟩, h3⟩ := h
  refine ⟨⟨by rw [hs _ _ (by omega) (by omega)]; exact h1, fun z => ⟨by rw [hs _ _ (by omega) (by omega)]; exact (h2 z).1, fun v hv => by rw [hs _ _ (by omega) (by omega)]; exact (h2 z).2 v hv⟩⟩, fun z v hv s hs' t => by rw [hs _ _ (by omega) (by omega)]; exact h3 z v hv s hs' t⟩
theorem PB_same (h : PB σ β f) (hs : ∀ a j, 139 ≤ a → a ≤ 150 → τ a j = σ a j) : PB τ β f :=
  ⟨GR_same h.1 (fun a j c1 c2 => hs a j (by omega) (by omega)), by rw [hs _ _ (by omega) (by omega)]; exact h.2.1, BP_same h.2.2 (fun a j c1 c2 => hs a j (by omega) (by omega))⟩
theorem RD_same {r : Nat} (h : RD σ r β) (hs : ∀ a j, r + 6 ≤ a → a ≤ r + 14 → τ a j = σ a j) : RD τ r β :=
  ⟨fun p q hp hq => by rw [hs _ _ (by omega) (by omega)]; exact h.1 p q hp hq, fun m p hm hp => by rw [hs _ _ (by omega) (by omega)]; exact h.2 m p hm hp⟩
theorem NT_rfr8 (h : NT σ β e) (hs : rfr8 σ τ) : NT τ β e := by
  obtain ⟨h1, h2, h3, h4⟩ := h
  have hb := bkA_lt (σ 0 3)
  have e3 : τ 0 3 = σ 0 3 := hs _ _ (by omega)
  unfold NT
  rw [e3, hs 0 8 (by omega), hs 184 5 (by omega), hs 184 6 (by omega)]
  refine ⟨Bk_same h1 h3 (fun k j a d => hs k j (by omega)), by rw [← h2]; funext j; exact hs _ _ (by omega), h3, ?_⟩
  rcases h4 with z | z
  · exact Or.inl z
  · exact Or.inr ⟨z.1, z.2.1, z.2.2.1, z.2.2.2.1, RF_same z.2.2.2.2 (fun a j h => hs a j (by omega))⟩
theorem TP_rfr8 (h : TP σ β) (hs : rfr8 σ τ) : TP τ β := by
  obtain ⟨h1, h2, h3, h4⟩ := h
  have hb := bkA_lt (σ 0 3)
  have e3 : τ 0 3 = σ 0 3 := hs _ _ (by omega)
  refine ⟨NT_rfr8 h1 hs, ?_, ?_, by rw [hs _ _ (by omega)]; exact h4⟩
  · rw [e3]
    exact RD_same h2 (fun a j c1 c2 => hs a j (by omega))
  · rw [hs 0 8 (by omega), hs 0 9 (by omega), hs 184 6 (by omega)]
    intro h8
    rcases h3 h8 with z | z
    · exact Or.inl z
    · exact Or.inr ⟨z.1, PB_same z.2 (fun a j c1 c2 => hs a j (by omega))⟩
theorem bkA_ge (v : Int) : 6 ≤ bkA v := by
  unfold bkA
  split <;> omega
/-- what the class's plan may change -/
def bfr (σ τ : xS) : Prop := ∀ a j, ¬ (139 ≤ a ∧ a ≤ 150) → ¬ (a = 0 ∧ j = 9) → τ a j = σ a j
theorem c_bestPlan (hT : TP σ β) (h8 : σ 0 8 = 1) (hn : 4000000 ≤ n) : OK (m_X12_bestPlan n σ) (fun τ => TP τ β ∧ PB τ β (σ 184 6) ∧ bfr σ τ) := by
  have hT' := hT
  obtain ⟨hNT, hR, hp, h50⟩ := hT
  have hNT' := hNT
  obtain ⟨hB, hβ, hV, h4⟩ := hNT
  have hb := bkA_lt (σ 0 3)
  have hb6 := bkA_ge (σ 0 3)
  obtain ⟨z1, z2, h60, hf, hRF⟩ : σ 0 8 = 1 ∧ σ 184 5 = 1 ∧ allF β ≤ 60 ∧ (0 ≤ σ 184 6 ∧ σ 184 6 ≤ 1439) ∧ RF σ 118 β (σ 184 6) := by
    rcases h4 with z | z
    · omega
    · exact z
  have hA : Ag β β := fun _ _ _ => rfl
  have v8 := hV.2.2.2.2.2.2.2.2.1
  have hP := PX_V (e := 0) (z := 1439) (f := σ 184 6) hA hV hV h60 (Or.inl rfl) hf (by omega)
  unfold m_X12_bestPlan
  rw [xj_eq]
  rcases hp h8 with z | ⟨z, hPB⟩
  · simp only [z]
    rw [zI_of (n := 0) (by omega) (by omega), if_pos rfl]
    refine OK_bind (c_gather hB hV h60 hRF hf (by omega) hn) (fun s1 h => ?_)
    obtain ⟨g1, g2, g3, g4⟩ := h
    have e03 : s1 0 3 = σ 0 3 := g4 _ _ (by omega) (by omega)
    rw [e03]
    have hC : CP s1 139 (bkA (σ 0 3)) (PX β β 0 (σ 184 6) 1439) := by
      refine ⟨fun p q hp' hq => ?_, fun m p hm hp' => ?_, g1, g2, ?_, fun v hv => ?_, by omega⟩
      · rw [g4 _ _ (by omega) (by omega)]
        exact hR.1 p q hp' hq
      · rw [g4 _ _ (by omega) (by omega)]
        exact hR.2 m p hm hp'
      · rw [g4 _ _ (by omega) (by omega), hB.2.2.2.2.2.2.2.2.1]
        show β 8 = (((β 8).toNat : Nat) : Int)
        omega
      · have hv' : v < (β 8).toNat := hv
        rw [g4 _ _ (by omega) (by omega)]
        rw [hB.2.2.2.2.2.2.2.2.2.2.2.2.2.1 v (by omega)]
        show _ = vcF β 0 v
        unfold vcF
        rw [if_pos (show v < 3 by omega)]
    refine OK_bind (c_choose hC hP hn) (fun s2 h => ?_)
    obtain ⟨w1, w2⟩ := h
    rw [xlet_eq]
    have hfr : bfr σ (xput s2 0 9 1) := fun a j c1 c2 => by
      rw [xput_ne c2, w2 a j (by omega), g4 _ _ (by omega) (by omega)]
    have hPB2 : PB (xput s2 0 9 1) β (σ 184 6) := by
      refine PB_same (σ := s2) ⟨GR_same g1 (fun a j c1 c2 => w2 a j (by omega)), by rw [w2 _ _ (by omega)]; exact g3, w1⟩ (fun a j c1 c2 => xput_ne (by omega))
    have e3 : (xput s2 0 9 1) 0 3 = σ 0 3 := hfr _ _ (by omega) (by omega)
    have e6 : (xput s2 0 9 1) 184 6 = σ 184 6 := hfr _ _ (by omega) (by omega)
    refine OK_some ⟨⟨?_, ?_, ?_, by rw [hfr _ _ (by omega) (by omega)]; exact h50⟩, hPB2, hfr⟩
    · unfold NT
      rw [e3, e6, hfr 0 8 (by omega) (by omega), hfr 184 5 (by omega) (by omega)]
      exact ⟨Bk_same hB hV (fun k j a d => hfr k j (by omega) (by omega)), by rw [← hβ]; funext j; exact hfr _ _ (by omega) (by omega), hV, Or.inr ⟨z1, z2, h60, hf, RF_same hRF (fun a j h => hfr a j (by omega) (by omega))⟩⟩
    · rw [e3]
      exact RD_same hR (fun a j c1 c2 => hfr a j (by omega) (by omega))
    · intro _
      rw [e6]
      exact Or.inr ⟨xput_eq, hPB2⟩
  · simp only [z]
    rw [zI_of (n := 1) (by omega) (by omega), if_neg (by omega)]
    exact OK_some ⟨hT', hPB, fun _ _ _ _ => rfl⟩
end PLH
