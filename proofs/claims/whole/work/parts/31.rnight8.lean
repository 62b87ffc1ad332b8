/-! the reference's minute: mixing -/
section RNQ
variable {σ : xS} {k n : Nat} {β : Nat → Int} {u t : Int} {N : Nat → Nat → Int} {M : NS}
theorem mixR_low {m i : Nat} (h : i < m) : mixR N t m (i + 1) = mixR N t m i := by
  funext r b
  simp only [mixR]
  rw [if_neg (by omega), if_neg (by omega)]
theorem mixR_up {m i : Nat} (h : m ≤ i) : mixR N t m (i + 1) = xput (mixR N t m i) 0 i t := by
  obtain ⟨j, rfl⟩ : ∃ j, i = m + j := ⟨i - m, by omega⟩
  exact mixR_succ
theorem r_mixes (hk : 185 ≤ k ∧ k ≤ 187) (hβ : σ k = β) (hV : V β) (hP : PV (prm β)) (hX : RX σ β M t t) (hn : 4000000 ≤ n) (ht : 0 ≤ t ∧ t ≤ 150000) (hbo : ∀ b, b < (bl β).length → bOK (prm β) M.1 (t + 1) b) (hm : M.2.2.2 ≤ (bl β).length) (hm0 : ∀ b, (b < M.2.2.2 → M.1 0 b ≠ -1) ∧ (M.2.2.2 ≤ b → M.1 0 b = -1)) :
    OK (m_X13_mixes n k σ) (fun σ' => RX σ' β (mixR M.1 t M.2.2.2 (mxTo (prm β) M.1 t M.2.2.2), M.2.1, M.2.2.1, mxTo (prm β) M.1 t M.2.2.2) t t ∧ rfr σ σ') := by
  have h60 : (bl β).length ≤ 60 := hP.2.2.1
  have v2 := hV.2.2.1
  have v4 := hV.2.2.2.2.1
  have epm : pm (prm β) = β 2 := rfl
  have epn : pn (prm β) = (bl β).length := rfl
  have hcb : 0 ≤ mxN (prm β) M.1 t ∧ mxN (prm β) M.1 t ≤ (bl β).length := cnt_bd (n := (bl β).length) (mxB (prm β) M.1 t)
  obtain ⟨⟨h19, hRB, hRO, hQ1, hQ2⟩, h34, h35, h36, h37, h38⟩ := hX
  have hsm := r_stateMany hP h19 (fun b hb => (hRB b hb).2.1) hn (s := 1) (by omega)
  rw [sumTo_congr (g := fun b => if mxB (prm β) M.1 t b = true then (1 : Int) else 0) (fun b hb => by
    have hT := hP.1 b hb
    have h := ph1 (hbo b hb) ⟨hT.2.2.2.1.1, by omega, hT.2.1.1⟩
    by_cases z : phF (prm β) M.1 t b = 1
    · rw [h.mp z, z]; rfl
    · rw [if_neg (fun y => z (by simpa using y)), if_neg (fun y => z (h.mpr y))])] at hsm
  change m_X13_stateMany n 1 σ = some (mxN (prm β) M.1 t) at hsm
  unfold m_X13_mixes
  simp (disch := omega) only [xck_of, tn_lit, hβ, hsm, bind_some', xlet_eq]
  have hmx : mxTo (prm β) M.1 t M.2.2.2 = (min ((bl β).length : Int) ((M.2.2.2 : Int) + max 0 (β 2 - mxN (prm β) M.1 t))).toNat := rfl
  by_cases c0 : β 2 - mxN (prm β) M.1 t ≤ 0
  · have e : mxTo (prm β) M.1 t M.2.2.2 = M.2.2.2 := by omega
    rw [e, mixR_id]
    refine loop_for 0 (fun i (s : Int × Int × xS) => s = (β 2 - mxN (prm β) M.1 t, 0, σ)) (fun i _ hi => absurd hi (Nat.not_lt_zero _)) ?_ (by omega) rfl
    rintro s rfl rec
    dsimp only
    simp (disch := omega) only [xj_eq, zI_of, h19]
    have hok : OK (some σ) (fun σ' => RX σ' β (M.1, M.2.1, M.2.2.1, M.2.2.2) t t ∧ rfr σ σ') := OK_some ⟨⟨⟨h19, hRB, hRO, hQ1, hQ2⟩, h34, h35, h36, h37, h38⟩, fun _ _ _ => rfl⟩
    split <;> exact hok
  · have hm1 : M.2.2.2 ≤ mxTo (prm β) M.1 t M.2.2.2 ∧ mxTo (prm β) M.1 t M.2.2.2 ≤ (bl β).length ∧ (mxTo (prm β) M.1 t M.2.2.2 : Int) - M.2.2.2 ≤ β 2 - mxN (prm β) M.1 t ∧ (mxTo (prm β) M.1 t M.2.2.2 < (bl β).length → (mxTo (prm β) M.1 t M.2.2.2 : Int) - M.2.2.2 = β 2 - mxN (prm β) M.1 t) := by omega
    clear hmx
    generalize mxTo (prm β) M.1 t M.2.2.2 = m' at hm1 ⊢
    have hB5 : 0 < β 2 - mxN (prm β) M.1 t ∧ β 2 - mxN (prm β) M.1 t ≤ 100 := by omega
    generalize β 2 - mxN (prm β) M.1 t = B at c0 hB5 hm1 ⊢
    refine loop_for m' (fun i (s : Int × Int × xS) => ∃ A : Nat → Nat → Int, A = mixR M.1 t M.2.2.2 i ∧ s.1 = B - ((i - M.2.2.2 : Nat) : Int) ∧ s.2.1 = (i : Int) ∧ (∀ b, b < (bl β).length → RB s.2.2 β A t b) ∧ s.2.2 184 36 = wmF (prm β) A ∧ (∀ a j, (a < 184 ∨ (184 < a ∧ a < 193) ∨ 196 ≤ a ∨ (a = 184 ∧ j ≠ 36)) → s.2.2 a j = σ a j)) ?_ ?_ (by omega) ⟨M.1, ?_, ?_, rfl, hRB, h36, fun _ _ _ => rfl⟩
    · rintro i ⟨s1, s2, τ⟩ hi ⟨A, hA, g1, g2, g3, g4, g5⟩ rec hrec
      dsimp only at g1 g2 g3 g4 g5 ⊢
      subst g1 g2
      have hcn : i < (bl β).length := by omega
      have t19 : τ 184 19 = ((bl β).length : Int) := by rw [g5 _ _ (by omega)]; exact h19
      have t34 : τ 184 34 = t := by rw [g5 _ _ (by omega)]; exact h34
      have tk : τ k = β := by rw [← hβ]; funext j; exact g5 k j (by omega)
      have hAe : ∀ r b, A r b = if r = 0 ∧ M.2.2.2 ≤ b ∧ b < i then t else M.1 r b := fun r b => by rw [hA]; rfl
      have hAi : ∀ r, A r i = M.1 r i := fun r => by rw [hAe, if_neg (by omega)]
      have hB := g3 i hcn
      have hbi := hbo i hcn
      have hph : τ 193 i = phF (prm β) M.1 t i := by rw [hB.2.1]; exact phF_congr (fun r _ => hAi r)
      have hphb : 0 ≤ phF (prm β) M.1 t i ∧ phF (prm β) M.1 t i ≤ 9 := by
        unfold phF
        repeat' split
        all_goals omega
      have h0 := ph0 hbi
      simp (disch := omega) only [zI_of (n := (i : Int)), zI_of (n := ((bl β).length : Int)), zI_of (n := B - ((i - M.2.2.2 : Nat) : Int)), zI_of (n := phF (prm β) M.1 t i), t19, if_neg, xck_of, tn_cast, xlet_eq, xj_eq, hph]
      by_cases cm : i < M.2.2.2
      · have hne := (hm0 i).1 cm
        rw [if_neg (fun z => hne (h0.mp z))]
        refine hrec _ ⟨A, by rw [hA, mixR_low cm], ?_, ?_, g3, g4, g5⟩
        · dsimp only; omega
        · dsimp only; omega
      · have hn0 := (hm0 i).2 (by omega)
        have hd := bl_d hV hcn
        have hT := hP.1 i hcn
        have h192 : τ 192 i = (((bl β).getD i 0 : Nat) : Int) := hB.1
        have hA1 : A 1 i = -1 := by rw [hAi]; unfold bOK at hbi; omega
        have hA2 : A 2 i = -1 := by rw [hAi]; unfold bOK at hbi; omega
        have hA3 : A 3 i = -1 := by rw [hAi]; unfold bOK at hbi; omega
        have hA0 : A 0 i = -1 := by rw [hAi]; exact hn0
        have hst : mixR M.1 t M.2.2.2 (i + 1) = xput A 0 i t := by rw [hA]; exact mixR_up (by omega)
        have hf0 : dF β ((bl β).getD i 0) 0 = pT (prm β) i 0 := rfl
        have hd0 : ∀ σ2 : xS, σ2 k = β → m_X13_dough k (((bl β).getD i 0 : Nat) : Int) 0 σ2 = some (pT (prm β) i 0) := fun σ2 e2 => by
          have h := r_dough0 (σ := σ2) (k := k) (i := (bl β).getD i 0) (by omega)
          rw [e2, hf0] at h
          exact h
        rw [if_pos (h0.mpr hn0)]
        simp (disch := omega) only [r_reaches0, bind_some', t34, xput_ne, h192]
        rw [hd0 _ (by rw [xput_ne1 (by omega), xput_ne1 (by omega)]; exact tk), bind_some']
        have eN : ∀ r x, r ≠ 0 ∨ x ≠ i → xput A 0 i t r x = A r x := fun r x h => by rw [xput_ne (by omega)]
        have eN1 : xput A 0 i t 0 i = t := xput_eq
        generalize xput A 0 i t = N2 at hst eN eN1
        refine hrec _ ⟨_, hst.symm, ?_, ?_, fun b hb => ?_, ?_, fun a j haj => ?_⟩
        · dsimp only; omega
        · dsimp only; omega
        · by_cases e : b = i
          · subst e
            obtain ⟨q0, q1, u1, u2, u4, u5, u7, s0, s1, s2, s3, s4, s5, q4, p7, p8⟩ := hB
            have e9 : phF (prm β) N2 t b = 1 := by
              unfold phF
              rw [eN 3 b (by omega), eN 2 b (by omega), eN 1 b (by omega), hA3, hA2, hA1, eN1, if_neg (by omega), if_neg (by omega), if_neg (by omega), if_pos (by omega), if_pos (by omega)]
            have e5 : sgF t (pT (prm β) b 0) t = sgF (A 0 b) (pT (prm β) b 0) t := by
              unfold sgF
              rw [hA0, if_neg (by omega), if_neg (by omega)]
            have ep : rE (prm β) N2 b = t + pT (prm β) b 0 + pT (prm β) b 1 := by unfold rE; rw [eN1]
            dsimp only
            unfold RB
            rw [e9, pE_congr (P := prm β) (eN 1 b (by omega)), eN1, eN 1 b (by omega), eN 2 b (by omega), eN 4 b (by omega), e5, ep]
            simp (disch := omega) only [xput_ne, xput_eq]
            exact ⟨q0, trivial, fun _ => trivial, fun h => by omega, fun h => by omega, fun h => by omega, fun h => by omega, trivial, s1, s2, s3, s4, s5, q4, p7, fun _ h => by omega⟩
          · refine RB_of (g3 b hb) (fun r hr => eN r b (by omega)) ?_ ?_ ?_ (fun r hr => ?_) ?_ ?_ ?_
            all_goals (dsimp only; rw [xput_ne (by omega), xput_ne (by omega), xput_ne (by omega), xput_ne (by omega)])
        · dsimp only
          rw [xput_eq, g4]
          unfold wmF
          have hcn' : i < pn (prm β) := hcn
          rw [sumTo_upd (b := i) (g := fun b => if N2 0 b ≠ -1 then N2 0 b else 0) (f := fun b => if A 0 b ≠ -1 then A 0 b else 0) hcn' (fun x hx => by
            rw [eN 0 x (by omega)])]
          simp (disch := omega) only [eN1, hA0, if_neg, if_pos]
          omega
        · dsimp only
          rw [xput_ne (by omega), xput_ne (by omega), xput_ne (by omega), xput_ne (by omega)]
          exact g5 a j haj
    · rintro ⟨s1, s2, τ⟩ ⟨A, hA, g1, g2, g3, g4, g5⟩ rec
      dsimp only at g1 g2 g3 g4 g5 ⊢
      subst g1 g2
      have t19 : τ 184 19 = ((bl β).length : Int) := by rw [g5 _ _ (by omega)]; exact h19
      have hAe : ∀ r b, A r b = if r = 0 ∧ M.2.2.2 ≤ b ∧ b < m' then t else M.1 r b := fun r b => by rw [hA]; rfl
      have hAr : ∀ r, r ≠ 0 → A r = M.1 r := fun r hr => by funext b; rw [hAe, if_neg (by omega)]
      simp (disch := omega) only [zI_of (n := (m' : Int)), zI_of (n := ((bl β).length : Int)), zI_of (n := B - ((m' - M.2.2.2 : Nat) : Int)), t19, xj_eq]
      have hok : OK (some τ) (fun σ' => RX σ' β (mixR M.1 t M.2.2.2 m', M.2.1, M.2.2.1, m') t t ∧ rfr σ σ') := by
        rw [← hA]
        refine OK_some ⟨⟨⟨t19, g3, fun o ho => ?_, ?_, ?_⟩, ?_, ?_, g4, ?_, ?_⟩, fun a j haj => g5 a j (by omega)⟩
        · refine RO_same (hRO o ho) ?_ ?_ ?_ ?_ ?_ ?_ ?_
          · dsimp only; rw [hAr 5 (by omega)]
          · dsimp only; rw [hAr 6 (by omega)]
          · dsimp only; rw [hAr 7 (by omega)]
          all_goals rw [g5 _ _ (by omega)]
        · exact RQ_of hQ1 (g5 _ _ (by omega)) (fun i _ => g5 _ _ (by omega))
        · exact RQ_of hQ2 (g5 _ _ (by omega)) (fun i _ => g5 _ _ (by omega))
        · rw [g5 _ _ (by omega)]; exact h34
        · rw [g5 _ _ (by omega), h35]
          dsimp only
          refine endE_congr _ fun b hb => ?_
          have e2 : A 2 b = M.1 2 b := by rw [hAr 2 (by omega)]
          have e3 : A 3 b = M.1 3 b := by rw [hAr 3 (by omega)]
          unfold eEn
          simp only [e2, e3]
        · rw [g5 _ _ (by omega), h37]
          dsimp only
          unfold wbF
          refine sumTo_congr fun b hb => ?_
          have e1 : A 1 b = M.1 1 b := by rw [hAr 1 (by omega)]
          simp only [e1]
          by_cases z : M.2.2.2 ≤ b
          · have h := hbo b hb
            have h1 := (hm0 b).2 z
            unfold bOK at h
            rw [if_neg (by omega), if_neg (by omega)]
          · have e0 : A 0 b = M.1 0 b := by rw [hAe, if_neg (by omega)]
            rw [rE_congr (P := prm β) e0]
        · rw [g5 _ _ (by omega), h38]
          dsimp only
          unfold woF
          refine sumTo_congr fun b hb => ?_
          have e2 : A 2 b = M.1 2 b := by rw [hAr 2 (by omega)]
          have e3 : A 3 b = M.1 3 b := by rw [hAr 3 (by omega)]
          have e1 : A 1 b = M.1 1 b := by rw [hAr 1 (by omega)]
          simp only [e2, e3, pE_congr (P := prm β) e1]
      by_cases cn : (bl β).length ≤ m'
      · rw [if_pos (by omega)]; exact hok
      · rw [if_neg (by omega), if_pos (by omega)]; exact hok
    · funext r b
      show M.1 r b = if r = 0 ∧ M.2.2.2 ≤ b ∧ b < 0 then t else M.1 r b
      rw [if_neg (by omega)]
    · dsimp only; omega
end RNQ
