/-! the latest start of both -/
section LA1
variable {σ τ : xS} {k n i b : Nat} {β γ : Nat → Int} {e f : Int}
def ltV (γ β : Nat → Int) (e : Int) : Int := if msF β (Mf (prm β)).1 (β 9).toNat = 0 then qT (PX γ β e 0 1439) else -1
theorem ltV_bd (hA : Ag β γ) (hVg : V γ) (hV : V β) (h60 : allF β ≤ 60) (he : e = 0 ∨ e = 1000000) : -1 ≤ ltV γ β e ∧ ltV γ β e ≤ 1439 := by
  have hP := PX_V (z := 1439) (f := 0) hA hVg hV h60 he (by omega) (by omega)
  have h := bsS_bd hP (qW (PX γ β e 0 1439))
  unfold ltV
  split
  · exact h
  · omega
/-- what a latest start is found from -/
def LG (σ : xS) (β : Nat → Int) : Prop := GR σ 172 (rdC 0 β (Mf (prm β)).1 (β 9).toNat) (duC 1439 β (β 9).toNat) (ldC β (β 9).toNat) ∧ σ 172 3 = (srvF β (Mf (prm β)).1 : Int) ∧ σ 172 4 = (msF β (Mf (prm β)).1 (β 9).toNat : Int)
theorem LG_same (h : LG σ β) (hs : ∀ a j, (173 ≤ a ∧ a ≤ 175) ∨ (a = 172 ∧ (j = 3 ∨ j = 4)) → τ a j = σ a j) : LG τ β :=
  ⟨GR_same h.1 (fun a j c1 c2 => hs a j (by omega)), by rw [hs _ _ (by omega)]; exact h.2.1, by rw [hs _ _ (by omega)]; exact h.2.2⟩
theorem c_latestAt (hB : Bk σ b β e) (hV : V β) (hVg : V γ) (hA : Ag β γ) (h60 : allF β ≤ 60) (he : e = 0 ∨ e = 1000000) (hR : RD σ (b + 39) γ) (hG : LG σ β) (hb : b + 54 ≤ 118) (hn : 4000000 ≤ n) :
    OK (m_X8_latest n 172 b σ) (fun x => x.1 = ltV γ β e ∧ ∀ k j, ¬ (176 ≤ k ∧ k ≤ 183) → x.2 k j = σ k j) := by
  have v8 := hV.2.2.2.2.2.2.2.2.1
  have g6 : γ 6 = β 6 := hA 6 (by omega) (by omega)
  have hP := PX_V (z := 1439) (f := 0) hA hVg hV h60 he (by omega) (by omega)
  have hRT := hR.2
  rw [g6] at hRT
  have hC : CP σ 172 b (PX γ β e 0 1439) := by
    refine ⟨hR.1, hRT, hG.1, hG.2.1, ?_, fun v hv => ?_, by omega⟩
    · rw [hB.2.2.2.2.2.2.2.2.1]
      show β 8 = (((β 8).toNat : Nat) : Int)
      omega
    · have hv' : v < (β 8).toNat := hv
      rw [hB.2.2.2.2.2.2.2.2.2.2.2.2.2.1 v (by omega)]
      show _ = vcF γ e v
      unfold vcF
      rw [if_pos (show v < 3 by omega), show vnF γ v = vnF β v from hA _ (by omega) (by omega)]
  refine OK_mono (c_latest hC hP (show msF β (Mf (prm β)).1 (β 9).toNat < 128 from b7_lt _) hG.2.2 hn) (fun x h => ⟨h.1, fun k j c => h.2 k j (by omega)⟩)
theorem c_latestAsItIs (hB : Bk σ (bkA (σ 0 3)) β e) (hV : V β) (h60 : allF β ≤ 60) (he : e = 0 ∨ e = 1000000) (hR : RD σ (bkA (σ 0 3) + 39) β) (hn : 4000000 ≤ n) :
    OK (m_X12_latestAsItIs n σ) (fun x => x.1 = ltV β β e ∧ LG x.2 β ∧ ∀ a j, ¬ (151 ≤ a ∧ a ≤ 183) → x.2 a j = σ a j) := by
  have hb := bkA_lt (σ 0 3)
  unfold m_X12_latestAsItIs
  refine OK_bind (c_run (q := 151) hB hV hn (by omega) (f := 0) (by omega) h60) (fun s1 h => ?_)
  obtain ⟨g1, g2⟩ := h
  have e3 : s1 0 3 = σ 0 3 := g2 _ _ (by omega)
  have hB1 : Bk s1 (bkA (σ 0 3)) β e := Bk_same hB hV (fun k j h1 h2 => g2 k j (by omega))
  rw [e3]
  refine OK_bind (c_gather (q := 172) (q' := 151) hB1 hV h60 g1 (by omega) (by omega) hn) (fun s2 h => ?_)
  obtain ⟨w1, w2, w3, w4⟩ := h
  have e3' : s2 0 3 = σ 0 3 := by rw [w4 _ _ (by omega) (by omega)]; exact e3
  have hB2 : Bk s2 (bkA (σ 0 3)) β e := Bk_same hB1 hV (fun k j h1 h2 => w4 k j (by omega) (by omega))
  have hR2 : RD s2 (bkA (σ 0 3) + 39) β := RD_same hR (fun a j c1 c2 => by rw [w4 _ _ (by omega) (by omega), g2 _ _ (by omega)])
  rw [e3']
  refine OK_xbS (c_latestAt hB2 hV hV (fun _ _ _ => rfl) h60 he hR2 ⟨w1, w2, w3⟩ hb hn) (fun v s3 h => ?_)
  obtain ⟨y1, y2⟩ := h
  dsimp only at y1 y2
  exact OK_some ⟨y1, LG_same ⟨w1, w2, w3⟩ (fun a j h => y2 a j (by omega)), fun a j c => by show s3 a j = σ a j; rw [y2 _ _ (by omega), w4 _ _ (by omega) (by omega), g2 _ _ (by omega)]⟩
/-- what a question may change of the class -/
def bfr2 (σ τ : xS) : Prop := ∀ a j, ¬ (139 ≤ a ∧ a ≤ 183) → ¬ (a = 0 ∧ j = 9) → τ a j = σ a j
theorem bfr_2 (h : bfr σ τ) : bfr2 σ τ := fun a j c1 c2 => h a j (by omega) c2
def BOTH2 (σ : xS) (β : Nat → Int) (c : Option (Int × xS)) (r : xS → Option (Int × xS)) : Prop := OK c (fun x => (-2147483648 ≤ x.1 ∧ x.1 < 2147483648) ∧ bfr2 σ x.2 ∧ TP x.2 β ∧ OK (r x.2) (fun y => y.1 = x.1 ∧ y.2 184 7 = 0 ∧ rfr8 x.2 y.2))
theorem BOTH_2 {c : Option (Int × xS)} {r : xS → Option (Int × xS)} (h : BOTH σ β c r) : BOTH2 σ β c r := OK_mono h fun x hx => ⟨hx.1, bfr_2 hx.2.1, hx.2.2⟩
theorem TP_cfr (h : TP σ β) (hs : ∀ a j, ¬ (151 ≤ a ∧ a ≤ 183) → τ a j = σ a j) : TP τ β := by
  obtain ⟨⟨h1, h2, h3, h4⟩, h5, h6, h7⟩ := h
  have hb := bkA_lt (σ 0 3)
  have e3 : τ 0 3 = σ 0 3 := hs _ _ (by omega)
  refine ⟨⟨?_, ?_, h3, ?_⟩, ?_, ?_, by rw [hs _ _ (by omega)]; exact h7⟩
  · rw [e3]
    exact Bk_same h1 h3 (fun k j a d => hs k j (by omega))
  · rw [← h2]
    funext j
    exact hs _ _ (by omega)
  · rw [hs 0 8 (by omega), hs 184 5 (by omega), hs 184 6 (by omega)]
    rcases h4 with z | z
    · exact Or.inl z
    · exact Or.inr ⟨z.1, z.2.1, z.2.2.1, z.2.2.2.1, RF_same z.2.2.2.2 (fun a j h => hs a j (by omega))⟩
  · rw [e3]
    exact RD_same h5 (fun a j c1 c2 => hs a j (by omega))
  · rw [hs 0 8 (by omega), hs 0 9 (by omega), hs 184 6 (by omega)]
    intro h8
    rcases h6 h8 with z | z
    · exact Or.inl z
    · exact Or.inr ⟨z.1, PB_same z.2 (fun a j c1 c2 => hs a j (by omega))⟩
theorem r_isMuch (hβ : σ 185 = β) (hV : V β) (hn : 4000000 ≤ n) : m_X13_isMuch n σ = some (if allF β ≤ 60 then 0 else 1) := by
  have hall := allF_bd hV
  have h := r_allBatches (σ := σ) (k := 185) (n := n) (by rw [hβ]; exact hV) hn
  rw [hβ] at h
  unfold m_X13_isMuch
  rw [h, bind_some', zI_of (by omega) (by omega), xlet_eq]
  by_cases c : allF β ≤ 60
  · rw [if_pos c, xbo_0]
  · rw [if_neg c, xbo_1]
theorem c_batchCount (hB : Bk σ (bkA (σ 0 3)) β e) (hV : V β) (hn : 4000000 ≤ n) : m_X12_batchCount n σ = some (if allF β ≤ 60 then allF β else -3) := by
  have hall := allF_bd hV
  unfold m_X12_batchCount
  rw [c_batchesNeeded hB hV hn, bind_some', zI_of (by omega) (by omega), xlet_eq]
theorem q_latestStart (hT : TP σ β) (hn : 4000000 ≤ n) : BOTH2 σ β (m_X12_latestStart n σ) (m_X13_latestStart n) := by
  have hT' := hT
  obtain ⟨⟨hB, hβ, hV, h4⟩, hR, hp, h50⟩ := hT
  have hall := allF_bd hV
  unfold BOTH2 m_X12_latestStart m_X13_latestStart
  rw [c_batchCount hB hV hn, bind_some', xj_eq]
  have k5 : ∀ t : xS, (xput t 184 7 0) 185 = t 185 := fun t => xput_ne1 (by omega)
  by_cases c60 : allF β ≤ 60
  · rw [if_pos c60, zI_of (by omega) (by omega), if_neg (by omega)]
    refine OK_xbS (c_latestAsItIs hB hV c60 (Or.inl rfl) hR hn) (fun v s h => ?_)
    obtain ⟨g1, -, g3⟩ := h
    dsimp only at g1 g3
    have hTs : TP s β := TP_cfr hT' g3
    have hlb := ltV_bd (β := β) (γ := β) (e := 0) (fun _ _ _ => rfl) hV hV c60 (Or.inl rfl)
    refine OK_some ⟨by (try dsimp only); omega, fun a j c1 _ => g3 a j (by omega), hTs, ?_⟩
    try dsimp only
    rw [xlet_eq, r_isMuch (β := β) (by rw [k5]; exact hTs.1.2.1) hV hn, bind_some', if_pos c60, zI_of (n := 0) (by omega) (by omega), if_pos rfl]
    refine OK_bind (r_simulates (k := 185) (β := β) (by omega) (by rw [k5]; exact hTs.1.2.1) hV c60 hn) (fun s4 h => ?_)
    obtain ⟨w1, w2⟩ := h
    have hfr : ∀ a j, (a < 184 ∨ (184 < a ∧ a < 192) ∨ 204 < a ∨ (a = 184 ∧ j ≠ 7 ∧ j ≠ 19 ∧ j ≠ 27 ∧ j ≠ 29 ∧ j ≠ 34 ∧ j ≠ 35 ∧ j ≠ 36 ∧ j ≠ 37 ∧ j ≠ 38)) → s4 a j = s a j := fun a j hj => by rw [w2 a j (by omega), xput_ne (by omega)]
    have h7 : s4 184 7 = 0 := by rw [w2 _ _ (by omega)]; exact xput_eq
    have hI : NI s4 185 β β 0 := NI_of hTs c60 (RG_of hV c60 w1).1 hfr
    refine OK_xbS (r_latest hI hn) (fun v' s5 h => ?_)
    obtain ⟨y1, y2⟩ := h
    dsimp only at y1 y2
    refine OK_some ⟨?_, ?_, fun a j hj => ?_⟩
    · rw [g1]
      exact y1
    · dsimp only
      rw [y2 _ _ (by omega) (by omega)]
      exact h7
    · dsimp only
      rw [y2 _ _ (by omega) (by omega)]
      exact hfr a j (by omega)
  · rw [if_neg c60, zI_of (by omega) (by omega), if_pos rfl]
    refine OK_some ⟨by (try dsimp only); omega, fun _ _ _ _ => rfl, hT', ?_⟩
    try dsimp only
    rw [xlet_eq, r_isMuch (β := β) (by rw [k5]; exact hβ) hV hn, bind_some', if_neg c60, zI_of (n := 1) (by omega) (by omega), if_neg (by omega)]
    exact OK_some ⟨rfl, (xput_eq : (xput σ 184 7 0) 184 7 = 0), fun a j hj => (xput_ne (by omega) : (xput σ 184 7 0) a j = σ a j)⟩
end LA1
