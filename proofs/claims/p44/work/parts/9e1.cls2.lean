/-! the class alone: failed shops, the latest start; a fresh object -/
section CLS2
variable {σ τ : xS} {n : Nat} {β γ : Nat → Int} {f e : Int}
def flF (β : Nat → Int) (f : Int) : Int := if qB (PX β β 0 f 1439) = -1 then -1 else (bcN (msF β (Mf (prm β)).1 (β 9).toNat) : Int) + qLa (PX β β 0 f 1439) (qB (PX β β 0 f 1439)).toNat
theorem c_failedShops (h : CB σ β) (hN : CNt σ β f) (hn : 4000000 ≤ n) : OK (m_X12_failedShops n σ) (fun x => x.1 = flF β f ∧ CB x.2 β ∧ CNt x.2 β f ∧ bfr σ x.2) := by
  have z1 := hN.2.2.1
  have hml : msF β (Mf (prm β)).1 (β 9).toNat < 128 := b7_lt _
  unfold m_X12_failedShops
  rw [z1, zI_of (n := 1) (by omega) (by omega), if_neg (by omega)]
  refine OK_bind (c_bestPlan h hN hn) (fun τ g => ?_)
  obtain ⟨hB2, hN2, hPB, hfr⟩ := g
  obtain ⟨p1, p2, ⟨⟨p3, p4⟩, p5⟩⟩ := hPB
  rw [xj_eq]
  unfold flF
  by_cases c : qB (PX β β 0 f 1439) = -1
  · rw [if_pos c] at p3
    simp only [p3]
    rw [zI_of (n := 0) (by omega) (by omega), if_pos rfl]
    exact OK_some ⟨(if_pos c).symm, hB2, hN2, hfr⟩
  · have e12 := (p4 c).1
    rw [if_neg c] at p3
    simp only [p3]
    unfold m_X8_missedTotal
    rw [zI_of (n := 1) (by omega) (by omega), if_neg (by omega), p2, show m_J6_bitCount_0f7a4 (msF β (Mf (prm β)).1 (β 9).toNat : Int) = some (bcN (msF β (Mf (prm β)).1 (β 9).toNat) : Int) from bc_tab ⟨_, hml⟩, bind_some', bind_some', e12]
    exact OK_some ⟨(if_neg c).symm, hB2, hN2, hfr⟩
theorem c_latestStart (h : CB σ β) (hn : 4000000 ≤ n) (h60 : allF β ≤ 60) : OK (m_X12_latestStart n σ) (fun x => x.1 = ltV β β 0 ∧ ∀ a j, ¬ (151 ≤ a ∧ a ≤ 183) → x.2 a j = σ a j) := by
  obtain ⟨hB, hV, hR⟩ := h
  have hall := allF_bd hV
  unfold m_X12_latestStart
  rw [c_batchCount hB hV hn, if_pos h60, bind_some', xj_eq, zI_of (n := allF β) (by omega) (by omega), if_neg (by omega)]
  refine OK_xbS (c_latestAsItIs hB hV h60 (Or.inl rfl) hR hn) (fun v s g => ?_)
  obtain ⟨g1, g2, g3⟩ := g
  exact OK_some ⟨g1, g3⟩
end CLS2
