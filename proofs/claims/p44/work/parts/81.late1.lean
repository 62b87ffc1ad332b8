/-! the latest start of both -/
section LA1
variable {σ τ : xS} {k n i b : Nat} {β γ : Nat → Int} {e f : Int}
def ltV (γ β : Nat → Int) (e : Int) : Int := if msF β (Mf (prm β)).1 (β 9).toNat = 0 then qT (PX γ β e 0 1439) else -1
/-- what a latest start is found from -/
def LG (σ : xS) (β : Nat → Int) : Prop := GR σ 172 (rdC 0 β (Mf (prm β)).1 (β 9).toNat) (duC 1439 β (β 9).toNat) (ldC β (β 9).toNat) ∧ σ 172 3 = (srvF β (Mf (prm β)).1 : Int) ∧ σ 172 4 = (msF β (Mf (prm β)).1 (β 9).toNat : Int)
theorem LG_same (h : LG σ β) (hs : ∀ a j, (173 ≤ a ∧ a ≤ 175) ∨ (a = 172 ∧ (j = 3 ∨ j = 4)) → τ a j = σ a j) : LG τ β :=
  ⟨GR_same h.1 (fun a j c1 c2 => hs a j (by omega)), by rw [hs _ _ (by omega)]; exact h.2.1, by rw [hs _ _ (by omega)]; exact h.2.2⟩
theorem c_latestAt (hB : Bk σ b β e) (hV : V β) (hVg : V γ) (hA : Ag β γ) (h60 : allF β ≤ 60) (he : e = 0 ∨ e = 1000000) (hR : RD σ (b + 39) γ) (hG : LG σ β) (hb : b + 54 ≤ 118) (hn : 4000000 ≤ n) :
    OK (m_X8_latest n 172 b σ) (fun x => x.1 = ltV γ β e ∧ ∀ k j, ¬ (176 ≤ k ∧ k ≤ 183) → x.2 k j = σ k j) := by
  have v8 := hV.2.2.2.2.2.2.2.2.1
  have g6 : γ 6 = β 6 := hA 6 (by omega) (by omega)
  have hP := PX_V (z := 1439) (f := 0) hA hVg hV h60 he (by omega) (by omega)
  have hRT := hR.2
  rw [g6] at hRT
  have hC : CP σ 172 b (PX γ β e 0 1439) := by
    refine ⟨hR.1, hRT, hG.1, hG.2.1, ?_, fun v hv => ?_, by omega⟩
    · rw [hB.2.2.2.2.2.2.2.2.1]
      show β 8 = (((β 8).toNat : Nat) : Int)
      omega
    · have hv' : v < (β 8).toNat := hv
      rw [hB.2.2.2.2.2.2.2.2.2.2.2.2.2.1 v (by omega)]
      show _ = vcF γ e v
      unfold vcF
      rw [if_pos (show v < 3 by omega), show vnF γ v = vnF β v from hA _ (by omega) (by omega)]
  refine OK_mono (c_latest hC hP (show msF β (Mf (prm β)).1 (β 9).toNat < 128 from b7_lt _) hG.2.2 hn) (fun x h => ⟨h.1, fun k j c => h.2 k j (by omega)⟩)
theorem c_latestAsItIs (hB : Bk σ (bkA (σ 0 3)) β e) (hV : V β) (h60 : allF β ≤ 60) (he : e = 0 ∨ e = 1000000) (hR : RD σ (bkA (σ 0 3) + 39) β) (hn : 4000000 ≤ n) :
    OK (m_X12_latestAsItIs n σ) (fun x => x.1 = ltV β β e ∧ LG x.2 β ∧ ∀ a j, ¬ (151 ≤ a ∧ a ≤ 183) → x.2 a j = σ a j) := by
  have hb := bkA_lt (σ 0 3)
  unfold m_X12_latestAsItIs
  refine OK_bind (c_run (q := 151) hB hV hn (by omega) (f := 0) (by omega) h60) (fun s1 h => ?_)
  obtain ⟨g1, g2⟩ := h
  have e3 : s1 0 3 = σ 0 3 := g2 _ _ (by omega)
  have hB1 : Bk s1 (bkA (σ 0 3)) β e := Bk_same hB hV (fun k j h1 h2 => g2 k j (by omega))
  rw [e3]
  refine OK_bind (c_gather (q := 172) (q' := 151) hB1 hV h60 g1 (by omega) (by omega) hn) (fun s2 h => ?_)
  obtain ⟨w1, w2, w3, w4⟩ := h
  have e3' : s2 0 3 = σ 0 3 := by rw [w4 _ _ (by omega) (by omega)]; exact e3
  have hB2 : Bk s2 (bkA (σ 0 3)) β e := Bk_same hB1 hV (fun k j h1 h2 => w4 k j (by omega) (by omega))
  have hR2 : RD s2 (bkA (σ 0 3) + 39) β := RD_same hR (fun a j c1 c2 => by rw [w4 _ _ (by omega) (by omega), g2 _ _ (by omega)])
  rw [e3']
  refine OK_xbS (c_latestAt hB2 hV hV (fun _ _ _ => rfl) h60 he hR2 ⟨w1, w2, w3⟩ hb hn) (fun v s3 h => ?_)
  obtain ⟨y1, y2⟩ := h
  dsimp only at y1 y2
  exact OK_some ⟨y1, LG_same ⟨w1, w2, w3⟩ (fun a j h => y2 a j (by omega)), fun a j c => by show s3 a j = σ a j; rw [y2 _ _ (by omega), w4 _ _ (by omega) (by omega), g2 _ _ (by omega)]⟩
theorem c_batchCount (hB : Bk σ (bkA (σ 0 3)) β e) (hV : V β) (hn : 4000000 ≤ n) : m_X12_batchCount n σ = some (if allF β ≤ 60 then allF β else -3) := by
  have hall := allF_bd hV
  unfold m_X12_batchCount
  rw [c_batchesNeeded hB hV hn, bind_some', zI_of (by omega) (by omega), xlet_eq]
end LA1
