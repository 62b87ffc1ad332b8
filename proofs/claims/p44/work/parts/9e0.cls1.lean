/-! the class alone: a bakery, its night, its plan; what is asked of them -/
section CLS
variable {σ τ : xS} {n : Nat} {β γ : Nat → Int} {f e : Int}
theorem bkA_ge (v : Int) : 6 ≤ bkA v := by
  unfold bkA
  split <;> omega
theorem RF_same {q : Nat} (h : RF σ q β f) (hs : ∀ a j, (q ≤ a ∧ a < q + 21) → τ a j = σ a j) : RF τ q β f := by
  obtain ⟨h1, h2, h3⟩ := h
  refine ⟨RN_of h1 (hs _ _ (by omega)) (hs _ _ (by omega)) (fun k j a b c d e => hs k j (by omega)), by rw [hs _ _ (by omega)]; exact h2, fun o ho => ?_⟩
  rw [hs _ _ (by omega), hs _ _ (by omega)]
  exact h3 o ho
theorem BP_same {q : Nat} {P : PP} (h : BP σ q P) (hs : ∀ a j, q ≤ a → a ≤ q + 11 → τ a j = σ a j) : BP τ q P := by
  obtain ⟨⟨h1, h2⟩, h3⟩ := h
  refine ⟨⟨by rw [hs _ _ (by omega) (by omega)]; exact h1, fun z => ⟨by rw [hs _ _ (by omega) (by omega)]; exact (h2 z).1, fun v hv => by rw [hs _ _ (by omega) (by omega)]; exact (h2 z).2 v hv⟩⟩, fun z v hv s hs' t => by rw [hs _ _ (by omega) (by omega)]; exact h3 z v hv s hs' t⟩
def PB (σ : xS) (β : Nat → Int) (f : Int) : Prop := GR σ 139 (rdC f β (Mf (prm β)).1 (β 9).toNat) (duC 1439 β (β 9).toNat) (ldC β (β 9).toNat) ∧ σ 139 4 = (msF β (Mf (prm β)).1 (β 9).toNat : Int) ∧ BP σ 139 (PX β β 0 f 1439)
theorem PB_same (h : PB σ β f) (hs : ∀ a j, 139 ≤ a → a ≤ 150 → τ a j = σ a j) : PB τ β f :=
  ⟨GR_same h.1 (fun a j c1 c2 => hs a j (by omega) (by omega)), by rw [hs _ _ (by omega) (by omega)]; exact h.2.1, BP_same h.2.2 (fun a j c1 c2 => hs a j (by omega) (by omega))⟩
def bfr (σ τ : xS) : Prop := ∀ a j, ¬ (139 ≤ a ∧ a ≤ 150) → ¬ (a = 0 ∧ j = 9) → τ a j = σ a j
/-- the class's bakery in use -/
def CB (σ : xS) (β : Nat → Int) : Prop := Bk σ (bkA (σ 0 3)) β 0 ∧ V β ∧ RD σ (bkA (σ 0 3) + 39) β
/-- its night from f on -/
def CNt (σ : xS) (β : Nat → Int) (f : Int) : Prop := allF β ≤ 60 ∧ (0 ≤ f ∧ f ≤ 1439) ∧ σ 0 8 = 1 ∧ RF σ 118 β f ∧ (σ 0 9 = 0 ∨ (σ 0 9 = 1 ∧ PB σ β f))
theorem CB_same (h : CB σ β) (h3 : τ 0 3 = σ 0 3) (hs : ∀ a j, 6 ≤ a → a < 114 → τ a j = σ a j) : CB τ β := by
  obtain ⟨hB, hV, hR⟩ := h
  have hb := bkA_lt (σ 0 3)
  have hb6 := bkA_ge (σ 0 3)
  unfold CB
  rw [h3]
  have h60 : bkA (σ 0 3) = 6 ∨ bkA (σ 0 3) = 60 := by
    unfold bkA
    split <;> omega
  exact ⟨Bk_same hB hV (fun k j c1 c2 => hs k j (by omega) (by omega)), hV, RD_same hR (fun a j c1 c2 => hs a j (by omega) (by omega))⟩
theorem CNt_same (h : CNt σ β f) (hs : ∀ a j, 114 ≤ a → a ≤ 150 → τ a j = σ a j) (h8 : τ 0 8 = σ 0 8) (h9 : τ 0 9 = σ 0 9) : CNt τ β f := by
  obtain ⟨h1, h2, h3, h4, h5⟩ := h
  refine ⟨h1, h2, h8.trans h3, RF_same h4 (fun a j c => hs a j (by omega) (by omega)), ?_⟩
  rw [h9]
  rcases h5 with z | ⟨z1, z2⟩
  · exact Or.inl z
  · exact Or.inr ⟨z1, PB_same z2 (fun a j c1 c2 => hs a j (by omega) (by omega))⟩
/-- the end of the night, from its start -/
def edF (β : Nat → Int) : Int := endF (prm β) (Mf (prm β)).1 (bl β).length
theorem c_simulate (h : CB σ β) (hn : 4000000 ≤ n) (hf : 0 ≤ f ∧ f ≤ 1439) (h60 : allF β ≤ 60) : OK (m_X12_simulate n f σ) (fun x => x.1 = f + edF β ∧ CB x.2 β ∧ CNt x.2 β f ∧ ∀ a j, ¬ (118 ≤ a ∧ a < 139) → ¬ (a = 0 ∧ (j = 8 ∨ j = 9)) → x.2 a j = σ a j) := by
  have h' := h
  obtain ⟨hB, hV, hR⟩ := h
  have hb := bkA_lt (σ 0 3)
  have hall := allF_bd hV
  unfold m_X12_simulate
  rw [xj_eq, zI_of (n := f) (by omega) (by omega), if_neg (by omega), if_pos hf.2, c_batchCount hB hV hn, if_pos h60, bind_some', zI_of (n := allF β) (by omega) (by omega), if_neg (by omega)]
  obtain ⟨σ2, e2, hRF, hfr⟩ := c_run (q := 118) hB hV hn hb hf h60
  rw [e2, bind_some', xlet_eq, xlet_eq]
  have fr : ∀ a j, ¬ (118 ≤ a ∧ a < 139) → ¬ (a = 0 ∧ (j = 8 ∨ j = 9)) → (xput (xput σ2 0 8 1) 0 9 0) a j = σ a j := fun a j c1 c2 => by
    rw [xput_ne (by omega), xput_ne (by omega)]
    exact hfr a j (by omega)
  refine OK_some ⟨?_, ?_, ⟨h60, hf, ?_, ?_, Or.inl ?_⟩, fr⟩
  · dsimp only
    rw [xput_ne (by omega), xput_ne (by omega)]
    exact hRF.2.1
  · exact CB_same (τ := xput (xput σ2 0 8 1) 0 9 0) h' (fr _ _ (by omega) (by omega)) (fun a j c1 c2 => fr a j (by omega) (by omega))
  · dsimp only
    rw [xput_ne (by omega), xput_eq]
  · exact RF_same hRF (fun a j c => by show xput (xput σ2 0 8 1) 0 9 0 a j = σ2 a j; rw [xput_ne (by omega), xput_ne (by omega)])
  · dsimp only
    rw [xput_eq]
theorem c_simMany (h : CB σ β) (hn : 4000000 ≤ n) (hf : 0 ≤ f ∧ f ≤ 1439) (h60 : ¬ allF β ≤ 60) : m_X12_simulate n f σ = some (-3, σ) := by
  obtain ⟨hB, hV, hR⟩ := h
  unfold m_X12_simulate
  rw [xj_eq, zI_of (n := f) (by omega) (by omega), if_neg (by omega), if_pos hf.2, c_batchCount hB hV hn, if_neg h60, bind_some', zI_of (n := -3) (by omega) (by omega), if_pos rfl]
theorem c_bestPlan (h : CB σ β) (hN : CNt σ β f) (hn : 4000000 ≤ n) : OK (m_X12_bestPlan n σ) (fun τ => CB τ β ∧ CNt τ β f ∧ PB τ β f ∧ bfr σ τ) := by
  have h' := h
  have hN' := hN
  obtain ⟨hB, hV, hR⟩ := h
  obtain ⟨h60, hf, z1, hRF, hp⟩ := hN
  have hb := bkA_lt (σ 0 3)
  have hb6 := bkA_ge (σ 0 3)
  have hA : Ag β β := fun _ _ _ => rfl
  have v8 := hV.2.2.2.2.2.2.2.2.1
  have hP := PX_V (e := 0) (z := 1439) (f := f) hA hV hV h60 (Or.inl rfl) hf (by omega)
  unfold m_X12_bestPlan
  rw [xj_eq]
  rcases hp with z | ⟨z, hPB⟩
  · simp only [z]
    rw [zI_of (n := 0) (by omega) (by omega), if_pos rfl]
    refine OK_bind (c_gather hB hV h60 hRF hf (by omega) hn) (fun s1 h => ?_)
    obtain ⟨g1, g2, g3, g4⟩ := h
    have e03 : s1 0 3 = σ 0 3 := g4 _ _ (by omega) (by omega)
    rw [e03]
    have hC : CP s1 139 (bkA (σ 0 3)) (PX β β 0 f 1439) := by
      refine ⟨fun p q hp' hq => ?_, fun m p hm hp' => ?_, g1, g2, ?_, fun v hv => ?_, by omega⟩
      · rw [g4 _ _ (by omega) (by omega)]
        exact hR.1 p q hp' hq
      · rw [g4 _ _ (by omega) (by omega)]
        exact hR.2 m p hm hp'
      · rw [g4 _ _ (by omega) (by omega), hB.2.2.2.2.2.2.2.2.1]
        show β 8 = (((β 8).toNat : Nat) : Int)
        omega
      · have hv' : v < (β 8).toNat := hv
        rw [g4 _ _ (by omega) (by omega)]
        rw [hB.2.2.2.2.2.2.2.2.2.2.2.2.2.1 v (by omega)]
        show _ = vcF β 0 v
        unfold vcF
        rw [if_pos (show v < 3 by omega)]
    refine OK_bind (c_choose hC hP hn) (fun s2 h => ?_)
    obtain ⟨w1, w2⟩ := h
    rw [xlet_eq]
    have hfr : bfr σ (xput s2 0 9 1) := fun a j c1 c2 => by
      rw [xput_ne c2, w2 a j (by omega), g4 _ _ (by omega) (by omega)]
    have hPB2 : PB (xput s2 0 9 1) β f := by
      refine PB_same (σ := s2) ⟨GR_same g1 (fun a j c1 c2 => w2 a j (by omega)), by rw [w2 _ _ (by omega)]; exact g3, w1⟩ (fun a j c1 c2 => xput_ne (by omega))
    exact OK_some ⟨CB_same h' (hfr _ _ (by omega) (by omega)) (fun a j c1 c2 => hfr a j (by omega) (by omega)), ⟨h60, hf, by rw [hfr _ _ (by omega) (by omega)]; exact z1, RF_same hRF (fun a j c => hfr a j (by omega) (by omega)), Or.inr ⟨xput_eq, hPB2⟩⟩, hPB2, hfr⟩
  · simp only [z]
    rw [zI_of (n := 1) (by omega) (by omega), if_neg (by omega)]
    exact OK_some ⟨h', hN', hPB, fun _ _ _ _ => rfl⟩
end CLS
