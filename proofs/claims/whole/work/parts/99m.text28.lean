/-! the reference: statement after statement -/
section TX28
variable {T : Nat → Int} {L p : Nat} {σ τ υ : xS} {n : Nat} {S : PSt}
/-- what the loop of the reference leaves -/
def rtR (τ : xS) (T : Nat → Int) (L : Nat) (r : RRn) (c : Int) : Prop := match r with
  | .inl f => rtX τ T L f
  | .inr x => c = (x.1 : Int) ∧ rtP τ T L x.2 ∧ PSV T L x.2
theorem r_pLoop {G : Int × xS → Option (Int × xS)} {Q : Int × xS → Prop} (h : rtP σ T L (S0 T L)) (hn : 4000000 ≤ n) (hG : ∀ c τ, rtF σ τ → rtR τ T L (sRun T L L 0 (S0 T L)) c → OK (G (c, τ)) Q) : OK (loopF (fun rec11 (t10 : Int × xS) => if (m_X13_fine t10.2) = 0 then G t10 else if (zI (t10.2 184 10)) ≤ (zI (t10.2 184 11)) then G t10 else (m_X13_statement n t10.2).bind fun s23 => xlet (t10.1 + 1) fun v24 => rec11 (v24, s23)) n (0, σ)) Q := by
  generalize hR : sRun T L L 0 (S0 T L) = R at hG
  have hL16 := h.1.1.2.2.1
  refine loop_ok (fun (t : Int × xS) => rtF σ t.2 ∧ ((∃ c S, t.1 = (c : Nat) ∧ rtP t.2 T L S ∧ PSV T L S ∧ S.1 ≤ L ∧ sRun T L L c S = R) ∨ (∃ f, rtX t.2 T L f ∧ R = .inl f))) (fun t => if t.2 184 12 = 0 then L + 1 - (t.2 184 11).toNat else 0) ?_ n (0, σ) ⟨fun _ _ _ _ => rfl, Or.inl ⟨0, S0 T L, rfl, h, PSV_S0, (skF_spec (Nat.zero_le _)).2.1, hR⟩⟩ (by dsimp only; split <;> omega)
  rintro t ⟨hF, hh⟩ rec hrec
  try dsimp only
  rcases hh with ⟨c, S, hc, hP, hV, hSL, hrun⟩ | ⟨f, hX, hRf⟩
  · have hGd := hP.1
    obtain ⟨g1, g2, g3, g4, g5⟩ := hGd
    rw [r_fineG hP.1, if_neg (by omega), g1.2.1, g2, zI_of (n := (L : Int)) (by omega) (by omega), zI_of (n := (S.1 : Int)) (by omega) (by omega)]
    by_cases hlt : S.1 < L
    · rw [if_neg (by omega)]
      refine OK_bind (r_statement hP hV hn) (fun s21 g => ?_)
      obtain ⟨k1, k2⟩ := g
      rw [xlet_eq]
      have hF2 : rtF σ s21 := rtF_trans hF k2
      cases hs : sAll T L S with
      | inl f =>
        rw [hs] at k1
        have gx : rtX s21 T L f := k1
        refine hrec _ ⟨hF2, Or.inr ⟨f, gx, by rw [← hrun]; exact run_bad hlt hs⟩⟩ ?_
        have n0 : s21 184 12 ≠ 0 := by
          rw [gx.2.2.1]
          have := gx.2.2.2.2.1
          omega
        show (if s21 184 12 = 0 then L + 1 - (s21 184 11).toNat else 0) < (if t.2 184 12 = 0 then L + 1 - (t.2 184 11).toNat else 0)
        rw [if_neg n0, if_pos g4, g2]
        omega
      | inr S' =>
        rw [hs] at k1
        have gp : rtP s21 T L S' := k1
        have h3 := n_all hV hSL hs
        refine hrec _ ⟨hF2, Or.inl ⟨c + 1, S', by show t.1 + 1 = _; omega, gp, h3.1, h3.2.2, by rw [← hrun]; exact (run_step hV hSL hlt hs).symm⟩⟩ ?_
        show (if s21 184 12 = 0 then L + 1 - (s21 184 11).toNat else 0) < (if t.2 184 12 = 0 then L + 1 - (t.2 184 11).toNat else 0)
        rw [if_pos gp.1.2.2.2.1, if_pos g4, g2, gp.1.2.1]
        omega
    · rw [if_pos (by omega)]
      have hRe : R = .inr (c, S) := by
        rw [← hrun]
        exact run_end hlt
      refine hG t.1 t.2 hF ?_
      rw [hRe]
      exact ⟨hc, hP, hV⟩
  · rw [r_fineX hX, if_pos rfl]
    refine hG t.1 t.2 hF ?_
    rw [hRf]
    exact hX
end TX28
