/-! the reference's night: the whole -/
section RNS2
variable {σ : xS} {k n : Nat} {β : Nat → Int} {u t : Int} {N : Nat → Nat → Int} {M : NS}
theorem ph89 {P : NP} {b : Nat} (hb : bOK P N (u + 1) b) : (phF P N u b = 8 ∨ phF P N u b = 9) ↔ (N 3 b ≠ -1 ∨ (N 2 b ≠ -1 ∧ N 2 b + pT P b 5 < u + 1)) := by
  unfold bOK at hb
  unfold phF
  constructor
  · intro h
    repeat' split at h
    all_goals omega
  · intro h
    by_cases c : N 3 b = -1
    · rw [if_neg (by omega), if_pos (by omega), if_neg (by omega)]; omega
    · rw [if_pos (by omega)]; omega
/-- all of them -/
theorem sum_all {n : Nat} {p : Nat → Bool} : (n : Int) ≤ sumTo n (fun b => if p b = true then (1 : Int) else 0) ↔ ∀ b, b < n → p b = true := by
  induction n with
  | zero => exact ⟨fun _ b hb => absurd hb (Nat.not_lt_zero _), fun _ => Int.le_refl _⟩
  | succ n ih =>
    have hc := cnt_bd (n := n) p
    rw [sumTo]
    constructor
    · intro h b hb
      by_cases z : p n = true
      · rw [if_pos z] at h
        by_cases e : b = n
        · rw [e]; exact z
        · exact ih.mp (by omega) b (by omega)
      · rw [if_neg z] at h
        omega
    · intro h
      have h1 := ih.mpr (fun b hb => h b (by omega))
      rw [if_pos (h n (by omega))]
      omega
theorem sum_two {n : Nat} {f g h : Nat → Int} (e : ∀ b, b < n → f b + g b = h b) : sumTo n f + sumTo n g = sumTo n h := by
  induction n with
  | zero => rfl
  | succ n ih =>
    have := ih (fun b hb => e b (by omega))
    have := e n (by omega)
    rw [sumTo, sumTo, sumTo]
    omega
/-- the reference's night is the mathematical one -/
def RF2 (σ : xS) (β : Nat → Int) : Prop := ∃ n0 : Nat, n0 ≤ 124001 ∧ RX σ β (Mf (prm β)) ((n0 : Int) - 1) n0 ∧ done (prm β) n0 (Mf (prm β)) ∧ Minv (prm β) n0 (Mf (prm β))
theorem r_simulates (hk : 185 ≤ k ∧ k ≤ 187) (hβ : σ k = β) (hV : V β) (h60 : allF β ≤ 60) (hn : 4000000 ≤ n) :
    OK (m_X13_simulates n k σ) (fun σ' => RF2 σ' β ∧ rfr σ σ') := by
  have hP := prm_V hV h60
  have hb60 : (bl β).length ≤ 60 := hP.2.2.1
  have epn : pn (prm β) = (bl β).length := rfl
  unfold m_X13_simulates
  refine OK_bind (r_clears hk hβ hV h60 hn) (fun s1 h1 => ?_)
  obtain ⟨c1, f1⟩ := h1
  rw [xlet_eq]
  refine loop_ok (fun (τ : xS) => ∃ n0 : Nat, n0 ≤ 124001 ∧ RX τ β (Mt (prm β) n0) ((n0 : Int) - 1) n0 ∧ rfr σ τ) (fun τ => (124002 - τ 184 34).toNat) ?_ n _ ⟨0, by omega, c1, fun a j h => by rw [xput_ne (by omega)]; exact f1 a j h⟩ (by rw [xput_eq]; omega)
  rintro τ ⟨n0, g1, g2, g3⟩ rec hrec
  have hkt : τ k = β := by rw [g3.row hk]; exact hβ
  have I := Minv_t hP n0
  have g2' := g2
  obtain ⟨⟨h19, hRB, hRO, hQ1, hQ2⟩, h34, h35, h36, h37, h38⟩ := g2'
  have s8 := r_stateMany hP h19 (fun b hb => (hRB b hb).2.1) hn (s := 8) (by omega)
  have s9 := r_stateMany hP h19 (fun b hb => (hRB b hb).2.1) hn (s := 9) (by omega)
  have b8 := cnt_bd (n := (bl β).length) (fun b => decide (phF (prm β) (Mt (prm β) n0).1 ((n0 : Int) - 1) b = 8))
  have b9 := cnt_bd (n := (bl β).length) (fun b => decide (phF (prm β) (Mt (prm β) n0).1 ((n0 : Int) - 1) b = 9))
  have e89 := sum_two (n := (bl β).length) (f := fun b => if decide (phF (prm β) (Mt (prm β) n0).1 ((n0 : Int) - 1) b = 8) = true then (1 : Int) else 0) (g := fun b => if decide (phF (prm β) (Mt (prm β) n0).1 ((n0 : Int) - 1) b = 9) = true then (1 : Int) else 0) (h := fun b => if (decide (phF (prm β) (Mt (prm β) n0).1 ((n0 : Int) - 1) b = 8) || decide (phF (prm β) (Mt (prm β) n0).1 ((n0 : Int) - 1) b = 9)) = true then (1 : Int) else 0) (fun b hb => by
    by_cases z : phF (prm β) (Mt (prm β) n0).1 ((n0 : Int) - 1) b = 8
    · rw [z]; rfl
    · by_cases y : phF (prm β) (Mt (prm β) n0).1 ((n0 : Int) - 1) b = 9
      · rw [y]; rfl
      · simp [z, y])
  have hd : ((bl β).length : Int) ≤ sumTo (bl β).length (fun b => if (decide (phF (prm β) (Mt (prm β) n0).1 ((n0 : Int) - 1) b = 8) || decide (phF (prm β) (Mt (prm β) n0).1 ((n0 : Int) - 1) b = 9)) = true then (1 : Int) else 0) ↔ done (prm β) n0 (Mt (prm β) n0) := by
    rw [sum_all]
    refine ⟨fun h b hb => ?_, fun h b hb => ?_⟩
    · have h1 := h b hb
      have h2 := (ph89 (u := (n0 : Int) - 1) (b := b) (P := prm β) (by rw [show (n0 : Int) - 1 + 1 = n0 by omega]; exact bOK_of hP I (by omega) hb)).mp (by simpa using h1)
      rw [show (n0 : Int) - 1 + 1 = n0 by omega] at h2
      exact h2
    · have h1 := h b hb
      have h2 := (ph89 (u := (n0 : Int) - 1) (b := b) (P := prm β) (N := (Mt (prm β) n0).1) (by rw [show (n0 : Int) - 1 + 1 = n0 by omega]; exact bOK_of hP I (by omega) hb)).mpr (by rw [show (n0 : Int) - 1 + 1 = n0 by omega]; exact h1)
      simpa using h2
  rw [s8, bind_some', s9, bind_some', h19, zI_of (by omega) (by omega), e89, zI_of (by omega) (by omega)]
  by_cases cd : done (prm β) n0 (Mt (prm β) n0)
  · rw [if_pos (hd.mpr cd)]
    have hMf := Mf_of_done hP cd
    rw [hMf] at cd g2 I
    exact OK_some ⟨⟨n0, g1, g2, cd, I⟩, g3⟩
  · rw [if_neg (fun z => cd (hd.mp z))]
    have hlt : n0 < 124001 := by
      rcases Nat.lt_or_ge n0 124001 with z | z
      · exact z
      · refine absurd ?_ cd
        have e : n0 = 124001 := by omega
        rw [e]
        exact Mf_done hP
    refine r_minute hk hkt hV hP g2 I (Cap_t hP n0) hn (by omega) (fun τ5 c5 f5 => ?_)
    rw [xlet_eq]
    have e34 : τ5 184 34 = n0 := c5.2.1
    have c6 := RX_34 (v := ((n0 + 1 : Nat) : Int)) c5
    rw [e34, show (n0 : Int) + 1 = ((n0 + 1 : Nat) : Int) by omega]
    refine hrec _ ⟨n0 + 1, by omega, ?_, fun a j h => by rw [xput_ne (by omega)]; exact (g3.trans f5) a j h⟩ ?_
    · rw [show (((n0 + 1 : Nat) : Int)) - 1 = (n0 : Int) by omega]
      exact c6
    · rw [xput_eq, h34]
      clear hd e89 b8 b9 s8 s9
      have q1 : (n0 : Int) < 124002 := by omega
      have q2 : ((n0 + 1 : Nat) : Int) = (n0 : Int) + 1 := by omega
      rw [q2]
      generalize (n0 : Int) = x at q1
      generalize (124002 : Int) = y at q1
      omega
end RNS2
