/-! the reference's minute: baking -/
section RNK
variable {σ : xS} {k n : Nat} {β : Nat → Int} {u t : Int} {N : Nat → Nat → Int} {M : NS}
theorem htN_row {P : NP} {h : Int} {r : Nat} (hr : r ≠ 5 ∧ r ≠ 6 ∧ r ≠ 7) : ∀ o, htN P N h t o r = N r
  | none => rfl
  | some c => by
    funext i
    unfold htN setCh
    dsimp only
    rw [xput_ne (by omega), xput_ne (by omega), xput_ne (by omega)]
theorem htS_ne {P : NP} {h : Int} {a j : Nat} (ha : a ≠ 202 ∧ a ≠ 203 ∧ a ≠ 204) : ∀ o, htS P N h t σ o a j = σ a j
  | none => rfl
  | some c => by
    unfold htS
    dsimp only
    rw [xput_ne (by omega), xput_ne (by omega), xput_ne (by omega)]
theorem RO_ht {P : NP} {h : Int} {x : Option Nat} (hx : ∀ c, x = some c → 1 ≤ need P N h c) {o : Nat} (hO : RO σ N t o) : RO (htS P N h t σ x) (htN P N h t x) t o := by
  cases x with
  | none => exact hO
  | some c =>
    have h1 := hx c rfl
    obtain ⟨o1, o2, o3⟩ := hO
    unfold RO htS htN setCh
    dsimp only
    by_cases e : o = c
    · subst e
      simp (disch := omega) only [xput_ne, xput_eq]
      exact ⟨fun z => by omega, fun _ => ⟨trivial, trivial⟩, by rw [o3]⟩
    · simp (disch := omega) only [xput_ne]
      exact ⟨o1, o2, o3⟩
theorem RO_same {σ' : xS} {N' : Nat → Nat → Int} {o : Nat} (h : RO σ N t o) (h5 : N' 5 o = N 5 o) (h6 : N' 6 o = N 6 o) (h7 : N' 7 o = N 7 o) (g1 : σ' 201 o = σ 201 o) (g2 : σ' 202 o = σ 202 o) (g3 : σ' 203 o = σ 203 o) (g4 : σ' 204 o = σ 204 o) : RO σ' N' t o := by
  unfold RO at h ⊢
  rw [h5, h6, h7, g1, g2, g3, g4]
  exact h
theorem r_bakes (hk : 185 ≤ k ∧ k ≤ 187) (hβ : σ k = β) (hV : V β) (hP : PV (prm β)) (hX : RX σ β M t t) (hN : NB (prm β) M.1) (h7 : ∀ o, o < pv (prm β) → M.1 7 o ≤ 90000000) (hn : 4000000 ≤ n) (ht : 0 ≤ t ∧ t ≤ 150000) (hl : M.2.2.1.length ≤ 60) (hbo : ∀ b, b < (bl β).length → bOK (prm β) M.1 (t + 1) b) (hQ : ∀ c, c ∈ M.2.2.1 → c < (bl β).length ∧ M.1 1 c ≠ -1 ∧ pE (prm β) M.1 c ≤ t ∧ M.1 2 c = -1 ∧ M.1 3 c = -1) (hQp : M.2.2.1.Pairwise (qR (prm β))) :
    OK (m_X13_bakes n k σ) (fun σ' => RX σ' β ((bakeR (prm β) t M.1 M.2.2.1).1, M.2.1, (bakeR (prm β) t M.1 M.2.2.1).2, M.2.2.2) t t ∧ rfr σ σ') := by
  have h60 : (bl β).length ≤ 60 := hP.2.2.1
  have v4 := hV.2.2.2.2.1
  have v5 := hV.2.2.2.2.2.1
  have epv : ((pv (prm β) : Nat) : Int) = β 5 := by show (((β 5).toNat : Nat) : Int) = β 5; omega
  have hBI : ∀ i, BI (prm β) t M.1 (M.2.2.1.take i) ((M.2.2.1.take i).foldl (bakeS (prm β) t) (M.1, [])) := fun i => bakeR_BI hP (fun o ho => (hN.2.2 o ho).1) (hQp.sublist (List.take_sublist _ _)) (fun c hc => ⟨(hQ c (List.mem_of_mem_take hc)).1, (hQ c (List.mem_of_mem_take hc)).2.2.2.1⟩)
  obtain ⟨⟨h19, hRB, hRO, hQ1, hQ2⟩, h34, h35, h36, h37, h38⟩ := hX
  unfold m_X13_bakes
  refine loop_for M.2.2.1.length (fun i (s : Int × Int × xS) => ∃ A : NK, A = (M.2.2.1.take i).foldl (bakeS (prm β) t) (M.1, []) ∧ s.1 = (A.2.length : Int) ∧ s.2.1 = (i : Int) ∧ A.2.length ≤ i ∧ (∀ b, b < (bl β).length → RB s.2.2 β A.1 t b) ∧ (∀ o : Nat, (o : Int) < β 5 → RO s.2.2 A.1 t o) ∧ s.2.2 184 29 = (M.2.2.1.length : Int) ∧ (∀ j, j < A.2.length → s.2.2 200 j = lG A.2 j) ∧ (∀ j, i ≤ j → j < M.2.2.1.length → s.2.2 200 j = lG M.2.2.1 j) ∧ endE (prm β) A.1 t (bl β).length = endE (prm β) M.1 t (bl β).length ∧ s.2.2 184 38 = woF (prm β) A.1 ∧ (∀ a j, (a < 184 ∨ (184 < a ∧ a < 193) ∨ a = 197 ∨ a = 198 ∨ a = 199 ∨ a = 201 ∨ 204 < a ∨ (a = 184 ∧ j ≠ 29 ∧ j ≠ 38)) → s.2.2 a j = σ a j)) ?_ ?_ (by omega) ⟨(M.1, []), by simp, rfl, rfl, Nat.le_refl _, hRB, hRO, hQ2.1, fun j hj => absurd hj (Nat.not_lt_zero _), fun j _ hj => hQ2.2 j hj, rfl, h38, fun _ _ _ => rfl⟩
  · rintro i ⟨s1, s2, τ⟩ hi ⟨A, hA, g1, g2, g3, g4, gO, g5, g6, g7, g8, g9, g10⟩ rec hrec
    dsimp only at g1 g2 g4 gO g5 g6 g7 g8 g9 g10 ⊢
    subst g1 g2
    have hI := hBI i
    rw [← hA] at hI
    have hNA := NB_BI hN h7 ht hI
    have hcm := getD_mem hi
    have hx := g7 i (Nat.le_refl _) hi
    have hA1 : (M.2.2.1.take (i + 1)).foldl (bakeS (prm β) t) (M.1, []) = bakeS (prm β) t A (M.2.2.1.getD i 0) := by rw [foldl_take _ _ _ 0 hi, ← hA]
    have hnt : M.2.2.1.getD i 0 ∉ M.2.2.1.take i := fun z => by
      have hp : (M.2.2.1.take i ++ M.2.2.1.drop i).Pairwise (qR (prm β)) := by rw [List.take_append_drop]; exact hQp
      have hd : M.2.2.1.getD i 0 ∈ M.2.2.1.drop i := by
        rw [List.getD_eq_getElem?_getD, List.getElem?_eq_getElem hi]
        refine List.mem_iff_getElem.mpr ⟨0, by rw [List.length_drop]; omega, ?_⟩
        simp
      exact ((List.pairwise_append.mp hp).2.2 _ z _ hd).1 rfl
    unfold lG at hx
    generalize M.2.2.1.getD i 0 = c at hcm hx hA1 hnt
    obtain ⟨hcn, hc1, hcp, hc2, hc3⟩ := hQ c hcm
    have hA2c : A.1 2 c = -1 := by rw [(hI.2.1 c hnt).1]; exact hc2
    have hAr : ∀ r, r ≠ 2 → r ≠ 4 → r ≠ 5 → r ≠ 6 → r ≠ 7 → A.1 r = M.1 r := hI.1
    have hA3c : A.1 3 c = -1 := by rw [hAr 3 (by decide) (by decide) (by decide) (by decide) (by decide)]; exact hc3
    have hA1c : A.1 1 c = M.1 1 c := by rw [hAr 1 (by decide) (by decide) (by decide) (by decide) (by decide)]
    have hpA : pE (prm β) A.1 c = pE (prm β) M.1 c := pE_congr hA1c
    have hboA : ∀ b, b < (bl β).length → bOK (prm β) A.1 (t + 1) b := fun b hb => by
      have h := hbo b hb
      unfold bOK at h ⊢
      rw [hAr 0 (by decide) (by decide) (by decide) (by decide) (by decide), hAr 1 (by decide) (by decide) (by decide) (by decide) (by decide), hAr 3 (by decide) (by decide) (by decide) (by decide) (by decide), rE_congr (P := prm β) (N := M.1) (N' := A.1) (b := b) (by rw [hAr 0 (by decide) (by decide) (by decide) (by decide) (by decide)]), pE_congr (P := prm β) (N := M.1) (N' := A.1) (b := b) (by rw [hAr 1 (by decide) (by decide) (by decide) (by decide) (by decide)])]
      refine ⟨h.1, h.2.1, h.2.2.1, ?_, h.2.2.2.2⟩
      by_cases z : b ∈ M.2.2.1.take i
      · obtain ⟨_, q1, q2, q3, q4⟩ := hQ b (List.mem_of_mem_take z)
        rcases hI.2.2.1 b z with y | y
        · rw [y.1]; exact Or.inr ⟨q1, q2, by omega, q4⟩
        · rw [y.1]; exact h.2.2.2.1
      · rw [(hI.2.1 b z).1]; exact h.2.2.2.1
    have hd := bl_d hV hcn
    have tk : τ k = β := by rw [← hβ]; funext j; exact g10 k j (by omega)
    have t34 : τ 184 34 = t := by rw [g10 _ _ (by omega)]; exact h34
    have t19 : τ 184 19 = ((bl β).length : Int) := by rw [g10 _ _ (by omega)]; exact h19
    have hB := g4 c hcn
    have hT := hP.1 c hcn
    have h192 : τ 192 c = (((bl β).getD c 0 : Nat) : Int) := hB.1
    have epe : pE (prm β) M.1 c = M.1 1 c + pT (prm β) c 2 + pT (prm β) c 3 := rfl
    have hb1 := hN.1 c hcn 1 (by omega)
    have h197 : τ 197 c = pE (prm β) M.1 c := by
      rw [← hpA]
      exact hB.2.2.2.2.2.2.2.2.2.2.2.2.2.2.1 (by rw [hA1c]; exact hc1) (by omega)
    have h6 : dF β ((bl β).getD c 0) 6 = pT (prm β) c 6 := rfl
    have h5 : dF β ((bl β).getD c 0) 5 = pT (prm β) c 5 := rfl
    have hd6 := r_dough6 (σ := τ) (k := k) (i := (bl β).getD c 0) (by omega)
    rw [tk, h6] at hd6
    have hof := r_ovenFor hk tk hV hP t19 g4 gO hboA hNA hn (h := pT (prm β) c 6) hT.2.2.2.2.2.2
    have hoc := r_isOneChanging hk tk hV gO hNA hn (h := pT (prm β) c 6) hT.2.2.2.2.2.2
    have hht := r_heats hk tk hV hP t19 t34 g4 gO hboA hNA hn (h := pT (prm β) c 6) hT.2.2.2.2.2.2
    have hle := firstTo_le (isFree (prm β) A.1 (pT (prm β) c 6) t) (pv (prm β))
    have hpv4 : pv (prm β) ≤ 4 := hP.2.2.2.1
    simp (disch := omega) only [zI_of (n := (i : Int)), zI_of (n := (M.2.2.1.length : Int)), zI_of (n := (c : Int)), g5, if_neg, hx, xck_of, tn_cast, xlet_eq, xj_eq, h192, hd6, hof, bind_some']
    by_cases cf : freeI (prm β) A.1 (pT (prm β) c 6) t < pv (prm β)
    · have efI : fI (prm β) A.1 (pT (prm β) c 6) t = ((freeI (prm β) A.1 (pT (prm β) c 6) t : Nat) : Int) := if_pos cf
      have hs : bakeS (prm β) t A c = (xput (xput A.1 2 c t) 4 c (freeI (prm β) A.1 (pT (prm β) c 6) t : Nat), A.2) := if_pos cf
      rw [efI]
      generalize freeI (prm β) A.1 (pT (prm β) c 6) t = o at cf hs efI hle
      have hd5 : ∀ σ2 : xS, σ2 k = β → m_X13_dough k (((bl β).getD c 0 : Nat) : Int) 5 σ2 = some (pT (prm β) c 5) := fun σ2 e2 => by
        have h := r_dough5 (σ := σ2) (k := k) (i := (bl β).getD c 0) (by omega)
        rw [e2, h5] at h
        exact h
      rw [zI_of (by omega) (by omega), if_neg (by omega), r_reaches4 (by omega), bind_some', t34]
      simp (disch := omega) only [xput_ne, h192]
      rw [hd5 _ (by rw [xput_ne1 (by omega), xput_ne1 (by omega), xput_ne1 (by omega)]; exact tk), bind_some']
      simp (disch := omega) only [xput_ne, t34, h197]
      have eN : ∀ r x, (r ≠ 2 ∧ r ≠ 4) ∨ x ≠ c → xput (xput A.1 2 c t) 4 c (o : Int) r x = A.1 r x := fun r x h => by rw [xput_ne (by omega), xput_ne (by omega)]
      have eN2 : xput (xput A.1 2 c t) 4 c (o : Int) 2 c = t := by rw [xput_ne (by omega), xput_eq]
      have eN4 : xput (xput A.1 2 c t) 4 c (o : Int) 4 c = o := xput_eq
      generalize xput (xput A.1 2 c t) 4 c (o : Int) = N2 at hs eN eN2 eN4
      refine hrec _ ⟨_, hA1.symm, ?_, by dsimp only; omega, ?_, fun b hb => ?_, fun o2 ho2 => ?_, ?_, fun j hj => ?_, fun j h1 h2 => ?_, ?_, ?_, fun a j haj => ?_⟩
      · rw [hs]
      · rw [hs]; dsimp only; omega
      · rw [hs]
        by_cases e : b = c
        · subst e
          obtain ⟨q0, q1, u1, u2, u4, u5, u7, s0, s1, s2, s3, s4, s5, q4, p7, p8⟩ := hB
          have e9 : phF (prm β) N2 t b = 7 := by
            unfold phF
            rw [eN 3 b (by omega), hA3c, eN2, if_neg (by omega), if_pos (by omega), if_pos (by omega)]
          have e5 : sgF t (pT (prm β) b 5) t = sgF (A.1 2 b) (pT (prm β) b 5) t := by
            unfold sgF
            rw [hA2c, if_neg (by omega), if_neg (by omega)]
          dsimp only
          unfold RB
          rw [e9, rE_congr (P := prm β) (eN 0 b (by omega)), pE_congr (P := prm β) (eN 1 b (by omega)), eN 0 b (by omega), eN 1 b (by omega), eN2, eN4, e5]
          simp (disch := omega) only [xput_ne, xput_eq]
          exact ⟨q0, trivial, fun h => by omega, fun h => by omega, fun h => by omega, fun h => by omega, fun _ => trivial, s0, s1, s2, s3, trivial, s5, trivial, p7, p8⟩
        · refine RB_of (g4 b hb) (fun r hr => eN r b (by omega)) ?_ ?_ ?_ (fun r hr => ?_) ?_ ?_ ?_
          all_goals (dsimp only; rw [xput_ne (by omega), xput_ne (by omega), xput_ne (by omega), xput_ne (by omega), xput_ne (by omega)])
      · rw [hs]
        dsimp only
        refine RO_same (gO o2 ho2) (eN 5 o2 (by omega)) (eN 6 o2 (by omega)) (eN 7 o2 (by omega)) ?_ ?_ ?_ ?_
        all_goals (rw [xput_ne (by omega), xput_ne (by omega), xput_ne (by omega), xput_ne (by omega), xput_ne (by omega)])
      · dsimp only; rw [xput_ne (by omega), xput_ne (by omega), xput_ne (by omega), xput_ne (by omega), xput_ne (by omega)]; exact g5
      · rw [hs] at hj ⊢
        dsimp only at hj ⊢
        rw [xput_ne (by omega), xput_ne (by omega), xput_ne (by omega), xput_ne (by omega), xput_ne (by omega)]
        exact g6 j hj
      · dsimp only
        rw [xput_ne (by omega), xput_ne (by omega), xput_ne (by omega), xput_ne (by omega), xput_ne (by omega)]
        exact g7 j (by omega) h2
      · rw [hs]
        dsimp only
        rw [← g8]
        refine endE_congr _ fun b hb => ?_
        unfold eEn
        by_cases e : b = c
        · subst e
          rw [eN 3 b (by omega), eN2, hA3c, hA2c, if_neg (by omega), if_neg (by omega), if_neg (by omega), if_neg (by omega)]
        · rw [eN 3 b (by omega), eN 2 b (by omega)]
      · rw [hs]
        dsimp only
        rw [xput_eq, g9]
        unfold woF
        have hcn' : c < pn (prm β) := hcn
        rw [sumTo_upd (b := c) (g := fun b => if N2 2 b ≠ -1 then N2 2 b - pE (prm β) N2 b else if N2 3 b ≠ -1 then N2 3 b - pE (prm β) N2 b else 0) (f := fun b => if A.1 2 b ≠ -1 then A.1 2 b - pE (prm β) A.1 b else if A.1 3 b ≠ -1 then A.1 3 b - pE (prm β) A.1 b else 0) hcn' (fun i hi => by
          rw [eN 2 i (by omega), eN 3 i (by omega), pE_congr (P := prm β) (eN 1 i (by omega))])]
        have e1 : pE (prm β) N2 c = pE (prm β) A.1 c := pE_congr (eN 1 c (by omega))
        simp (disch := omega) only [eN2, hA2c, hA3c, e1, hpA, if_neg, if_pos]
        omega
      · dsimp only
        rw [xput_ne (by omega), xput_ne (by omega), xput_ne (by omega), xput_ne (by omega), xput_ne (by omega)]
        exact g10 a j haj
    · have efI : fI (prm β) A.1 (pT (prm β) c 6) t = -1 := if_neg cf
      have hs : bakeS (prm β) t A c = (changeO (prm β) A.1 (pT (prm β) c 6) t, A.2 ++ [c]) := if_neg cf
      have hfe : freeI (prm β) A.1 (pT (prm β) c 6) t = pv (prm β) := by
        change freeI (prm β) A.1 (pT (prm β) c 6) t ≤ pv (prm β) at hle
        omega
      have hned : ∀ c2, bestO (prm β) A.1 (pT (prm β) c 6) t (pv (prm β)) = some c2 → 1 ≤ need (prm β) A.1 (pT (prm β) c 6) c2 := fun c2 e2 => by
        have hc := bestO_some e2
        have hcc := canCh_iff.mp hc.2
        have hO := hP.2.1 c2 hc.1
        refine (need_bd (N := A.1) (h := pT (prm β) c 6) hO.2.2.1 (hNA.2.2 c2 hc.1).1 hT.2.2.2.2.2.2).2.2 fun z => ?_
        have : isFree (prm β) A.1 (pT (prm β) c 6) t c2 = true := isFree_iff.mpr ⟨hcc.2.1, hcc.1, z, by omega⟩
        rw [firstTo_none.mp hfe c2 hc.1] at this
        cases this
      rw [efI, zI_of (by omega) (by omega), if_pos rfl, hoc, bind_some']
      have two : ∃ τ2 : xS, (∀ F : xS → Option xS, (if zI (if chgI (prm β) A.1 (pT (prm β) c 6) t < pv (prm β) then (1 : Int) else 0) = 0 then (m_X13_heats n k (pT (prm β) c 6) τ).bind F else F τ) = F τ2) ∧ (∀ o : Nat, (o : Int) < β 5 → RO τ2 (changeO (prm β) A.1 (pT (prm β) c 6) t) t o) ∧ (∀ a j, a ≠ 202 ∧ a ≠ 203 ∧ a ≠ 204 → τ2 a j = τ a j) ∧ (∀ r, r ≠ 5 ∧ r ≠ 6 ∧ r ≠ 7 → changeO (prm β) A.1 (pT (prm β) c 6) t r = A.1 r) := by
        rw [changeO_eq]
        by_cases cc : chgI (prm β) A.1 (pT (prm β) c 6) t < pv (prm β)
        · rw [if_pos cc, if_pos cc, zI_of (by omega) (by omega)]
          exact ⟨τ, fun F => if_neg (by omega), gO, fun _ _ _ => rfl, fun _ _ => rfl⟩
        · rw [if_neg cc, if_neg cc, zI_of (by omega) (by omega)]
          exact ⟨_, fun F => by rw [if_pos rfl, hht, bind_some'], fun o ho => RO_ht hned (gO o ho), fun a j ha => htS_ne ha _, fun r hr => htN_row hr _⟩
      obtain ⟨τ2, w1, w2, w3, w4⟩ := two
      rw [w1]
      simp (disch := omega) only [zI_of (n := (A.2.length : Int)), xck_of, tn_cast]
      generalize changeO (prm β) A.1 (pT (prm β) c 6) t = N2 at hs w2 w4
      refine hrec _ ⟨_, hA1.symm, ?_, ?_, ?_, fun b hb => ?_, fun o2 ho2 => ?_, ?_, fun j hj => ?_, fun j h1 h2 => ?_, ?_, ?_, fun a j haj => ?_⟩
      · rw [hs]; simp
      · dsimp only; omega
      · rw [hs]; simp; omega
      · rw [hs]
        refine RB_of (g4 b hb) (fun r hr => by dsimp only; rw [w4 r (by omega)]) ?_ ?_ ?_ (fun r hr => ?_) ?_ ?_ ?_
        all_goals (dsimp only; rw [xput_ne (by omega), w3 _ _ (by omega)])
      · rw [hs]
        dsimp only
        refine RO_same (w2 o2 ho2) rfl rfl rfl ?_ ?_ ?_ ?_
        all_goals (rw [xput_ne (by omega)])
      · dsimp only; rw [xput_ne (by omega), w3 _ _ (by omega)]; exact g5
      · rw [hs] at hj ⊢
        simp at hj
        dsimp only
        by_cases cj : j = A.2.length
        · rw [cj, xput_eq, lG_app]
        · rw [xput_ne (by omega), lG_l (by omega), w3 _ _ (by omega)]
          exact g6 j (by omega)
      · dsimp only
        rw [xput_ne (by omega), w3 _ _ (by omega)]
        exact g7 j (by omega) h2
      · rw [hs, ← g8]
        refine endE_congr _ fun b hb => ?_
        have e2 : N2 2 b = A.1 2 b := by rw [w4 2 (by omega)]
        have e3 : N2 3 b = A.1 3 b := by rw [w4 3 (by omega)]
        unfold eEn
        dsimp only
        simp only [e2, e3]
      · rw [hs]
        dsimp only
        rw [xput_ne (by omega), w3 _ _ (by omega), g9]
        unfold woF
        refine sumTo_congr fun b _ => ?_
        rw [w4 2 (by omega), w4 3 (by omega), pE_congr (P := prm β) (N := A.1) (N' := N2) (b := b) (by rw [w4 1 (by omega)])]
      · dsimp only
        rw [xput_ne (by omega), w3 _ _ (by omega)]
        exact g10 a j haj
  · rintro ⟨s1, s2, τ⟩ ⟨A, hA, g1, g2, g3, g4, gO, g5, g6, g7, g8, g9, g10⟩ rec
    dsimp only at g1 g2 g4 gO g5 g6 g7 g8 g9 g10 ⊢
    subst g1 g2
    rw [List.take_length] at hA
    have hI := hBI M.2.2.1.length
    rw [List.take_length, ← hA] at hI
    have hsp : bakeR (prm β) t M.1 M.2.2.1 = A := hA.symm
    have hA0 : A.1 0 = M.1 0 := hI.1 0 (by decide) (by decide) (by decide) (by decide) (by decide)
    have hA1 : A.1 1 = M.1 1 := hI.1 1 (by decide) (by decide) (by decide) (by decide) (by decide)
    simp (disch := omega) only [zI_of, g5, if_pos, xlet_eq]
    rw [hsp]
    refine OK_some ⟨⟨⟨?_, fun b hb => ?_, fun o ho => ?_, ?_, ?_⟩, ?_, ?_, ?_, ?_, ?_⟩, fun a j haj => ?_⟩
    · rw [xput_ne (by omega), g10 _ _ (by omega)]; exact h19
    · refine RB_of (g4 b hb) (fun r hr => rfl) ?_ ?_ ?_ (fun r hr => ?_) ?_ ?_ ?_
      all_goals rw [xput_ne (by omega)]
    · refine RO_same (gO o ho) rfl rfl rfl ?_ ?_ ?_ ?_
      all_goals rw [xput_ne (by omega)]
    · exact RQ_of hQ1 (by rw [xput_ne (by omega)]; exact g10 _ _ (by omega)) (fun i _ => by rw [xput_ne (by omega)]; exact g10 _ _ (by omega))
    · exact ⟨xput_eq, fun i hi => by rw [xput_ne (by omega)]; exact g6 i hi⟩
    · rw [xput_ne (by omega), g10 _ _ (by omega)]; exact h34
    · rw [xput_ne (by omega), g10 _ _ (by omega), h35]; exact g8.symm
    · rw [xput_ne (by omega), g10 _ _ (by omega), h36]
      dsimp only
      unfold wmF
      rw [hA0]
    · rw [xput_ne (by omega), g10 _ _ (by omega), h37]
      dsimp only
      unfold wbF
      rw [hA1]
      refine sumTo_congr fun b _ => ?_
      rw [rE_congr (P := prm β) (N := M.1) (N' := A.1) (by rw [hA0])]
    · rw [xput_ne (by omega)]; exact g9
    · rw [xput_ne (by omega)]; exact g10 a j (by omega)
end RNK
