/-! the reference's minute: shaping -/
section RNP
variable {σ : xS} {k n : Nat} {β : Nat → Int} {u t : Int} {N : Nat → Nat → Int} {M : NS}
theorem r_shapes (hk : 185 ≤ k ∧ k ≤ 187) (hβ : σ k = β) (hV : V β) (hP : PV (prm β)) (hX : RX σ β M t t) (hN : NB (prm β) M.1) (hn : 4000000 ≤ n) (ht : 0 ≤ t ∧ t ≤ 150000) (hl : M.2.1.length ≤ 60) (hbo : ∀ b, b < (bl β).length → bOK (prm β) M.1 (t + 1) b) (hc : shN (prm β) M.1 t ≤ pk (prm β)) (hQ : ∀ c, c ∈ M.2.1 → c < (bl β).length ∧ M.1 1 c = -1 ∧ M.1 0 c ≠ -1 ∧ rE (prm β) M.1 c ≤ t) (hQp : M.2.1.Pairwise (qR (prm β))) :
    OK (m_X13_shapes n k σ) (fun σ' => RX σ' β (shapeR t M.1 (M.2.1.take (shCnt (prm β) M.1 t M.2.1.length)), M.2.1.drop (shCnt (prm β) M.1 t M.2.1.length), M.2.2.1, M.2.2.2) t t ∧ rfr σ σ') := by
  have h60 : (bl β).length ≤ 60 := hP.2.2.1
  have v3 := hV.2.2.2.1
  have v4 := hV.2.2.2.2.1
  have epk : pk (prm β) = β 3 := rfl
  have hcb : 0 ≤ shN (prm β) M.1 t ∧ shN (prm β) M.1 t ≤ (bl β).length := cnt_bd (n := (bl β).length) (shB (prm β) M.1 t)
  obtain ⟨⟨h19, hRB, hRO, hQ1, hQ2⟩, h34, h35, h36, h37, h38⟩ := hX
  have hsm := r_stateMany hP h19 (fun b hb => (hRB b hb).2.1) hn (s := 4) (by omega)
  rw [sumTo_congr (g := fun b => if shB (prm β) M.1 t b = true then (1 : Int) else 0) (fun b hb => by
    have hT := hP.1 b hb
    have h := ph4 (hbo b hb) hT.2.2.2.1.1
    by_cases z : phF (prm β) M.1 t b = 4
    · rw [h.mp z, z]; rfl
    · rw [if_neg (fun y => z (by simpa using y)), if_neg (fun y => z (h.mpr y))])] at hsm
  change m_X13_stateMany n 4 σ = some (shN (prm β) M.1 t) at hsm
  have h27 := hQ1.1
  have ek : min (β 3 - shN (prm β) M.1 t) (M.2.1.length : Int) = ((shCnt (prm β) M.1 t M.2.1.length : Nat) : Int) := by
    unfold shCnt
    rw [epk]
    omega
  unfold m_X13_shapes
  simp (disch := omega) only [xck_of, tn_lit, hβ, hsm, bind_some', xlet_eq, h27, r_lesser, ek]
  have hK : shCnt (prm β) M.1 t M.2.1.length ≤ M.2.1.length := by omega
  generalize shCnt (prm β) M.1 t M.2.1.length = K at hK ⊢
  have hne : ∀ i, i < M.2.1.length → M.2.1.getD i 0 ∉ M.2.1.take i := fun i hi z => by
    have hp : (M.2.1.take i ++ M.2.1.drop i).Pairwise (qR (prm β)) := by rw [List.take_append_drop]; exact hQp
    have hd : M.2.1.getD i 0 ∈ M.2.1.drop i := by
      rw [List.getD_eq_getElem?_getD, List.getElem?_eq_getElem hi]
      refine List.mem_iff_getElem.mpr ⟨0, by rw [List.length_drop]; omega, ?_⟩
      simp
    exact ((List.pairwise_append.mp hp).2.2 _ z _ hd).1 rfl
  refine loop_for K (fun i (s : Int × xS) => ∃ A : Nat → Nat → Int, A = shapeR t M.1 (M.2.1.take i) ∧ s.1 = (i : Int) ∧ (∀ b, b < (bl β).length → RB s.2 β A t b) ∧ s.2 184 37 = wbF (prm β) A ∧ (∀ a j, (a < 184 ∨ (184 < a ∧ a < 193) ∨ 196 ≤ a ∨ (a = 184 ∧ j ≠ 37)) → s.2 a j = σ a j)) ?_ ?_ (by omega) ⟨M.1, by simp [shapeR], rfl, hRB, h37, fun _ _ _ => rfl⟩
  · rintro i ⟨s1, τ⟩ hi ⟨A, hA, g1, g2, g3, g4⟩ rec hrec
    dsimp only at g1 g2 g3 g4 ⊢
    subst g1
    have hi' : i < M.2.1.length := by omega
    have hcm := getD_mem hi'
    have hnt := hne i hi'
    have hx : τ 199 i = (((M.2.1.getD i 0 : Nat)) : Int) := by rw [g4 _ _ (by omega)]; exact hQ1.2 i hi'
    have hst := shapeR_take (t := t) (N := M.1) hi'
    rw [← hA] at hst
    have hAe : ∀ r b, A r b = if r = 1 ∧ b ∈ M.2.1.take i then t else M.1 r b := fun r b => by rw [hA, shapeR_eq]
    generalize M.2.1.getD i 0 = c at hcm hx hst hnt
    obtain ⟨hcn, hc1, hc0, hcr⟩ := hQ c hcm
    have hbc := hbo c hcn
    have hA1 : A 1 c = -1 := by rw [hAe, if_neg (fun z => hnt z.2)]; exact hc1
    have hA0 : A 0 c = M.1 0 c := by rw [hAe, if_neg (by omega)]
    have hA2 : A 2 c = -1 := by
      rw [hAe, if_neg (by omega)]
      unfold bOK at hbc
      omega
    have hA3 : A 3 c = -1 := by
      rw [hAe, if_neg (by omega)]
      unfold bOK at hbc
      omega
    have hrA : rE (prm β) A c = rE (prm β) M.1 c := rE_congr hA0
    have hB := g2 c hcn
    have hd := bl_d hV hcn
    have hT := hP.1 c hcn
    have tk : τ k = β := by rw [← hβ]; funext j; exact g4 k j (by omega)
    have t34 : τ 184 34 = t := by rw [g4 _ _ (by omega)]; exact h34
    have h192 : τ 192 c = (((bl β).getD c 0 : Nat) : Int) := hB.1
    have h198 : τ 198 c = rE (prm β) M.1 c := by
      rw [← hrA]
      exact hB.2.2.2.2.2.2.2.2.2.2.2.2.2.2.2 (by rw [hA0]; exact hc0) (by omega)
    have h2 : dF β ((bl β).getD c 0) 2 = pT (prm β) c 2 := rfl
    have hd2 : ∀ σ2 : xS, σ2 k = β → m_X13_dough k (((bl β).getD c 0 : Nat) : Int) 2 σ2 = some (pT (prm β) c 2) := fun σ2 e2 => by
      have h := r_dough2 (σ := σ2) (k := k) (i := (bl β).getD c 0) (by omega)
      rw [e2, h2] at h
      exact h
    simp (disch := omega) only [zI_of (n := (i : Int)), zI_of (n := (K : Int)), zI_of (n := (c : Int)), if_neg, xck_of, tn_cast, xlet_eq, hx, r_reaches2, bind_some', t34, xput_ne, h192]
    rw [hd2 _ (by rw [xput_ne1 (by omega), xput_ne1 (by omega)]; exact tk), bind_some']
    simp (disch := omega) only [xput_ne, t34, h198]
    have eN : ∀ r x, r ≠ 1 ∨ x ≠ c → xput A 1 c t r x = A r x := fun r x h => by rw [xput_ne (by omega)]
    have eN1 : xput A 1 c t 1 c = t := xput_eq
    generalize xput A 1 c t = N2 at hst eN eN1
    have hbe : bOK (prm β) M.1 (t + 1) c := hbc
    refine hrec _ ⟨_, hst.symm, by first | (dsimp only; omega) | omega, fun b hb => ?_, ?_, fun a j haj => ?_⟩
    · by_cases e : b = c
      · subst e
        obtain ⟨q0, q1, u1, u2, u4, u5, u7, s0, s1, s2, s3, s4, s5, q4, p7, p8⟩ := hB
        have e9 : phF (prm β) N2 t b = 4 := by
          unfold phF
          rw [eN 3 b (by omega), eN 2 b (by omega), hA3, hA2, eN1, if_neg (by omega), if_neg (by omega), if_pos (by omega), if_pos (by omega)]
        have e5 : sgF t (pT (prm β) b 2) t = sgF (A 1 b) (pT (prm β) b 2) t := by
          unfold sgF
          rw [hA1, if_neg (by omega), if_neg (by omega)]
        have ep : pE (prm β) N2 b = t + pT (prm β) b 2 + pT (prm β) b 3 := by unfold pE; rw [eN1]
        dsimp only
        unfold RB
        rw [e9, rE_congr (P := prm β) (eN 0 b (by omega)), eN 0 b (by omega), eN1, eN 2 b (by omega), eN 4 b (by omega), e5, ep]
        simp (disch := omega) only [xput_ne, xput_eq]
        exact ⟨q0, trivial, fun h => by omega, fun h => by omega, fun _ => trivial, fun h => by omega, fun h => by omega, s0, s1, trivial, s3, s4, s5, q4, fun _ h => by omega, p8⟩
      · refine RB_of (g2 b hb) (fun r hr => eN r b (by omega)) ?_ ?_ ?_ (fun r hr => ?_) ?_ ?_ ?_
        all_goals (dsimp only; rw [xput_ne (by omega), xput_ne (by omega), xput_ne (by omega), xput_ne (by omega)])
    · dsimp only
      rw [xput_eq, g3]
      unfold wbF
      have hcn' : c < pn (prm β) := hcn
      rw [sumTo_upd (b := c) (g := fun b => if N2 1 b ≠ -1 then N2 1 b - rE (prm β) N2 b else 0) (f := fun b => if A 1 b ≠ -1 then A 1 b - rE (prm β) A b else 0) hcn' (fun i hi => by
        rw [eN 1 i (by omega), rE_congr (P := prm β) (eN 0 i (by omega))])]
      have e1 : rE (prm β) N2 c = rE (prm β) A c := rE_congr (eN 0 c (by omega))
      simp (disch := omega) only [eN1, hA1, e1, hrA, if_neg, if_pos]
      omega
    · dsimp only
      rw [xput_ne (by omega), xput_ne (by omega), xput_ne (by omega), xput_ne (by omega)]
      exact g4 a j haj
  · rintro ⟨s1, τ⟩ ⟨A, hA, g1, g2, g3, g4⟩ rec
    dsimp only at g1 g2 g3 g4 ⊢
    subst g1
    simp (disch := omega) only [zI_of (n := (K : Int)), if_pos]
    have hAe : ∀ r b, A r b = if r = 1 ∧ b ∈ M.2.1.take K then t else M.1 r b := fun r b => by rw [hA, shapeR_eq]
    rw [← hA]
    refine loop_for (t := ((K : Int), τ)) (M.2.1.length - K) (fun i (s : Int × xS) => s.1 = ((K + i : Nat) : Int) ∧ (∀ j, j < i → s.2 199 j = lG M.2.1 (K + j)) ∧ (∀ j, K + i ≤ j → j < M.2.1.length → s.2 199 j = lG M.2.1 j) ∧ (∀ a j, a ≠ 199 → s.2 a j = τ a j)) ?_ ?_ (by omega) ⟨rfl, fun j hj => absurd hj (Nat.not_lt_zero _), fun j _ hj => by show τ 199 j = _; rw [g4 _ _ (by omega)]; exact hQ1.2 j hj, fun _ _ _ => rfl⟩
    · rintro i ⟨s1, τ2⟩ hi ⟨w1, w2, w3, w4⟩ rec2 hrec2
      dsimp only at w1 w2 w3 w4 ⊢
      subst w1
      have t27 : τ2 184 27 = (M.2.1.length : Int) := by rw [w4 _ _ (by omega), g4 _ _ (by omega)]; exact h27
      have e0 : (((K + i : Nat) : Int)) - (K : Int) = (i : Int) := by omega
      have hx := w3 (K + i) (by omega) (by omega)
      simp (disch := omega) only [zI_of (n := ((K + i : Nat) : Int)), zI_of (n := (M.2.1.length : Int)), zI_of (n := (i : Int)), t27, e0, if_neg, xck_of, tn_cast, xlet_eq, hx]
      refine hrec2 _ ⟨by dsimp only; omega, fun j hj => ?_, fun j h1 h2 => ?_, fun a j ha => ?_⟩
      · dsimp only
        by_cases cj : j = i
        · rw [cj, xput_eq]
        · rw [xput_ne (by omega)]; exact w2 j (by omega)
      · dsimp only
        rw [xput_ne (by omega)]
        exact w3 j (by omega) h2
      · dsimp only
        rw [xput_ne (by omega)]
        exact w4 a j ha
    · rintro ⟨s1, τ2⟩ ⟨w1, w2, w3, w4⟩ rec2
      dsimp only at w1 w2 w3 w4 ⊢
      subst w1
      have t27 : τ2 184 27 = (M.2.1.length : Int) := by rw [w4 _ _ (by omega), g4 _ _ (by omega)]; exact h27
      simp (disch := omega) only [zI_of (n := ((K + (M.2.1.length - K) : Nat) : Int)), zI_of (n := (M.2.1.length : Int)), t27, if_pos, xlet_eq]
      refine OK_some ⟨⟨⟨?_, fun b hb => ?_, fun o ho => ?_, ?_, ?_⟩, ?_, ?_, ?_, ?_, ?_⟩, fun a j haj => ?_⟩
      · rw [xput_ne (by omega), w4 _ _ (by omega), g4 _ _ (by omega)]; exact h19
      · refine RB_of (g2 b hb) (fun r hr => rfl) ?_ ?_ ?_ (fun r hr => ?_) ?_ ?_ ?_
        all_goals rw [xput_ne (by omega), w4 _ _ (by omega)]
      · refine RO_same (hRO o ho) ?_ ?_ ?_ ?_ ?_ ?_ ?_
        · dsimp only; rw [hAe, if_neg (by omega)]
        · dsimp only; rw [hAe, if_neg (by omega)]
        · dsimp only; rw [hAe, if_neg (by omega)]
        all_goals rw [xput_ne (by omega), w4 _ _ (by omega), g4 _ _ (by omega)]
      · refine ⟨?_, fun i hi => ?_⟩
        · rw [xput_eq, List.length_drop]; omega
        · rw [List.length_drop] at hi
          rw [xput_ne (by omega), w2 i (by omega)]
          unfold lG
          rw [List.getD_eq_getElem?_getD, List.getD_eq_getElem?_getD, List.getElem?_drop]
      · exact RQ_of hQ2 (by rw [xput_ne (by omega), w4 _ _ (by omega)]; exact g4 _ _ (by omega)) (fun i _ => by rw [xput_ne (by omega), w4 _ _ (by omega)]; exact g4 _ _ (by omega))
      · rw [xput_ne (by omega), w4 _ _ (by omega), g4 _ _ (by omega)]; exact h34
      · rw [xput_ne (by omega), w4 _ _ (by omega), g4 _ _ (by omega), h35]
        dsimp only
        refine endE_congr _ fun b hb => ?_
        have e2 : A 2 b = M.1 2 b := by rw [hAe, if_neg (by omega)]
        have e3 : A 3 b = M.1 3 b := by rw [hAe, if_neg (by omega)]
        unfold eEn
        simp only [e2, e3]
      · rw [xput_ne (by omega), w4 _ _ (by omega), g4 _ _ (by omega), h36]
        dsimp only
        unfold wmF
        refine sumTo_congr fun b _ => ?_
        have e2 : A 0 b = M.1 0 b := by rw [hAe, if_neg (by omega)]
        simp only [e2]
      · rw [xput_ne (by omega), w4 _ _ (by omega)]; exact g3
      · rw [xput_ne (by omega), w4 _ _ (by omega), g4 _ _ (by omega), h38]
        dsimp only
        unfold woF
        refine sumTo_congr fun b hb => ?_
        have e2 : A 2 b = M.1 2 b := by rw [hAe, if_neg (by omega)]
        have e3 : A 3 b = M.1 3 b := by rw [hAe, if_neg (by omega)]
        simp only [e2, e3]
        by_cases z : b ∈ M.2.1.take K
        · have h := hbo b hb
          have h1 := (hQ b (List.mem_of_mem_take z)).2.1
          unfold bOK at h
          rw [if_neg (by omega), if_neg (by omega), if_neg (by omega), if_neg (by omega)]
        · have e1 : A 1 b = M.1 1 b := by rw [hAe, if_neg (fun y => z y.2)]
          rw [pE_congr (P := prm β) e1]
      · rw [xput_ne (by omega), w4 _ _ (by omega)]; exact g4 a j (by omega)
end RNP
