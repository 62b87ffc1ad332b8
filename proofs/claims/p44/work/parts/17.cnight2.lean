/-! the class's minute, step by step -/
section CM
variable {σ : xS} {q b n : Nat} {β : Nat → Int} {e f t : Int} {N : Nat → Nat → Int} {M : NS}
theorem RN_of {σ' : xS} (h : RN σ q β f N) (h0 : σ' q 0 = σ q 0) (h2 : σ' q 2 = σ q 2) (hr : ∀ k j, q < k → k < q + 18 → k ≠ q + 3 → k ≠ q + 13 → k ≠ q + 14 → σ' k j = σ k j) : RN σ' q β f N := by
  obtain ⟨r0, r2, rd, rb, rc, ro⟩ := h
  refine ⟨by rw [h0]; exact r0, by rw [h2]; exact r2, fun b hb => ?_, fun b hb r hr' => ?_, fun b hb => ?_, fun o ho => ?_⟩
  · rw [hr _ _ (by omega) (by omega) (by omega) (by omega) (by omega)]; exact rd b hb
  · rw [hr _ _ (by omega) (by omega) (by omega) (by omega) (by omega)]; exact rb b hb r hr'
  · rw [hr _ _ (by omega) (by omega) (by omega) (by omega) (by omega), hr _ _ (by omega) (by omega) (by omega) (by omega) (by omega), hr _ _ (by omega) (by omega) (by omega) (by omega) (by omega), hr _ _ (by omega) (by omega) (by omega) (by omega) (by omega)]; exact rc b hb
  · rw [hr _ _ (by omega) (by omega) (by omega) (by omega) (by omega), hr _ _ (by omega) (by omega) (by omega) (by omega) (by omega), hr _ _ (by omega) (by omega) (by omega) (by omega) (by omega)]; exact ro o ho
theorem RQ_of {σ' : xS} {k j a : Nat} {Q : List Nat} (h : RQ σ k j a Q) (h1 : σ' k j = σ k j) (h2 : ∀ i, i < Q.length → σ' a i = σ a i) : RQ σ' k j a Q := by
  refine ⟨by rw [h1]; exact h.1, fun i hi => ?_⟩
  rw [h2 i hi]
  exact h.2 i hi
theorem lG_app {Q : List Nat} {i : Nat} : lG (Q ++ [i]) Q.length = (i : Int) := by
  unfold lG
  rw [List.getD_eq_getElem?_getD, List.getElem?_append_right (Nat.le_refl _)]
  simp
theorem RQ_app {k j a : Nat} {Q : List Nat} {i : Nat} (h : RQ σ k j a Q) (hak : a ≠ k) : RQ (xput (xput σ a Q.length (i : Int)) k j ((xput σ a Q.length (i : Int)) k j + 1)) k j a (Q ++ [i]) := by
  obtain ⟨h1, h2⟩ := h
  refine ⟨?_, fun i' hi => ?_⟩
  · rw [xput_eq, xput_ne (by omega), h1, List.length_append]
    simp
  · rw [List.length_append] at hi
    simp at hi
    rw [xput_ne (by omega)]
    by_cases c : i' = Q.length
    · rw [c, xput_eq, lG_app]
    · rw [xput_ne (by omega), lG_l (by omega)]
      exact h2 i' (by omega)
theorem nodup_le : ∀ (Q : List Nat) {m : Nat}, Q.Pairwise (· ≠ ·) → (∀ b, b ∈ Q → b < m) → Q.length ≤ m := by
  intro Q m hp hq
  have h := sumTo_list (n := m) Q (fun _ => false) hp (fun b hb => ⟨hq b hb, rfl⟩)
  have h2 := sumTo_bd (n := m) (f := fun b => if (decide (b ∈ Q) || false) = true then (1 : Int) else 0) (lo := 0) (hi := 1) (fun i _ => by split <;> omega)
  rw [h] at h2
  have h3 : sumTo m (fun b => if (fun _ => false) b = true then (1 : Int) else 0) = 0 := sumTo_zero (fun _ _ => rfl)
  rw [h3] at h2
  omega
theorem qR_ne {P : NP} {Q : List Nat} (h : Q.Pairwise (qR P)) : Q.Pairwise (· ≠ ·) := h.imp (fun h => h.1)
/-- step: what has ended -/
theorem c_note (hB : Bk σ b β e) (hV : V β) (hP : PV (prm β)) (hC : RC σ q β f M) (hN : NB (prm β) M.1) (hn : 4000000 ≤ n) (hq : b + 54 ≤ q) (hf : 0 ≤ f ∧ f ≤ 1439) (ht : 0 ≤ t ∧ t ≤ 150000) (hl1 : (sQs (prm β) t M).length ≤ 60) (hl2 : (sQo (prm β) t M).length ≤ 60) :
    OK (m_X4_noteWhatEnded n q b (t + f) σ) (fun σ' => RC σ' q β f (M.1, sQs (prm β) t M, sQo (prm β) t M, M.2.2.2) ∧ (∀ o : Nat, (o : Int) < β 5 → σ' (q + 18) o = used (prm β) M.1 o t) ∧ nfr q σ σ') := by
  have h60 : (bl β).length ≤ 60 := hP.2.2.1
  have v5 := hV.2.2.2.2.2.1
  obtain ⟨hRN, hQs, hQo, hm⟩ := hC
  have hpre : ∀ i, i ≤ (bl β).length → (M.2.1 ++ (List.range i).filter (fun b => decide (M.1 0 b ≠ -1) && decide (rE (prm β) M.1 b = t))).length ≤ 60 ∧ (M.2.2.1 ++ (List.range i).filter (fun b => decide (M.1 1 b ≠ -1) && decide (pE (prm β) M.1 b = t))).length ≤ 60 := fun i hi => by
    have hs : (List.range i).Sublist (List.range (bl β).length) := List.range_sublist.mpr hi
    have h1 := (hs.filter (fun b => decide (M.1 0 b ≠ -1) && decide (rE (prm β) M.1 b = t))).length_le
    have h2 := (hs.filter (fun b => decide (M.1 1 b ≠ -1) && decide (pE (prm β) M.1 b = t))).length_le
    have g1 : (sQs (prm β) t M).length = M.2.1.length + ((List.range (bl β).length).filter (fun b => decide (M.1 0 b ≠ -1) && decide (rE (prm β) M.1 b = t))).length := by
      unfold sQs newS; rw [List.length_append]; rfl
    have g2 : (sQo (prm β) t M).length = M.2.2.1.length + ((List.range (bl β).length).filter (fun b => decide (M.1 1 b ≠ -1) && decide (pE (prm β) M.1 b = t))).length := by
      unfold sQo newO; rw [List.length_append]; rfl
    rw [List.length_append, List.length_append]
    omega
  unfold m_X4_noteWhatEnded
  refine loop_for (bl β).length (fun i (s : Int × xS) => s.1 = (i : Int) ∧ RQ s.2 q 11 (q + 13) (M.2.1 ++ (List.range i).filter (fun b => decide (M.1 0 b ≠ -1) && decide (rE (prm β) M.1 b = t))) ∧ RQ s.2 q 13 (q + 14) (M.2.2.1 ++ (List.range i).filter (fun b => decide (M.1 1 b ≠ -1) && decide (pE (prm β) M.1 b = t))) ∧ (∀ k j, k ≠ q + 13 → k ≠ q + 14 → ¬ (k = q ∧ (j = 11 ∨ j = 13)) → s.2 k j = σ k j)) ?_ ?_ (by omega) ⟨rfl, by simpa using hQs, by simpa using hQo, fun k j _ _ _ => rfl⟩
  · rintro i ⟨s1, τ⟩ hi ⟨g1, g2, g3, g4⟩ rec hrec
    dsimp only at g1 g2 g3 g4 ⊢
    subst g1
    have hR : RN τ q β f M.1 := RN_of hRN (g4 _ _ (by omega) (by omega) (by omega)) (g4 _ _ (by omega) (by omega) (by omega)) (fun k j a c d e g => g4 k j (by omega) (by omega) (by omega))
    obtain ⟨r0, r2, rd, rb, rc, ro⟩ := hR
    have hc := rc i hi
    have hT := hP.1 i hi
    have hb0 := hN.1 i hi 0 (by omega)
    have hb1 := hN.1 i hi 1 (by omega)
    have hpi := hpre (i + 1) (by omega)
    rw [List.range_succ, List.filter_append, List.filter_append, ← List.append_assoc, ← List.append_assoc] at hpi
    have eR : rE (prm β) M.1 i = M.1 0 i + pT (prm β) i 0 + pT (prm β) i 1 := rfl
    have eP : pE (prm β) M.1 i = M.1 1 i + pT (prm β) i 2 + pT (prm β) i 3 := rfl
    have z1 : zI (t + f) = t + f := zI_of (by omega) (by omega)
    have z2 : zI (i : Int) = i := zI_of (by omega) (by omega)
    have z3 : zI ((bl β).length : Int) = ((bl β).length : Int) := zI_of (by omega) (by omega)
    simp (disch := omega) only [z1, z2, z3, r2, if_neg, xck_of, tn_cast, xlet_eq, xj_eq]
    -- the second half, for any state that has the first queue
    have second : ∀ τ1 : xS, RQ τ1 q 11 (q + 13) (M.2.1 ++ (List.range (i + 1)).filter (fun b => decide (M.1 0 b ≠ -1) && decide (rE (prm β) M.1 b = t))) → RQ τ1 q 13 (q + 14) (M.2.2.1 ++ (List.range i).filter (fun b => decide (M.1 1 b ≠ -1) && decide (pE (prm β) M.1 b = t))) → (∀ k j, k ≠ q + 13 → k ≠ q + 14 → ¬ (k = q ∧ (j = 11 ∨ j = 13)) → τ1 k j = σ k j) →
        OK (if zI (τ1 (q + 11) i) = t + f then if 60 ≤ zI (τ1 q 13) then rec ((i : Int) + 1, τ1) else xck (zI (τ1 q 13)) 60 (rec ((i : Int) + 1, xput (xput τ1 (q + 14) (zI (τ1 q 13)).toNat (i : Int)) q 13 ((xput τ1 (q + 14) (zI (τ1 q 13)).toNat (i : Int)) q 13 + 1))) else rec ((i : Int) + 1, τ1)) (fun σ' => RC σ' q β f (M.1, sQs (prm β) t M, sQo (prm β) t M, M.2.2.2) ∧ (∀ o : Nat, (o : Int) < β 5 → σ' (q + 18) o = used (prm β) M.1 o t) ∧ nfr q σ σ') := by
      intro τ1 u1 u2 u3
      have hp2 : τ1 (q + 11) i = (if M.1 1 i = -1 then -1 else pE (prm β) M.1 i + f) := by
        rw [u3 _ _ (by omega) (by omega) (by omega), ← g4 _ _ (by omega) (by omega) (by omega)]
        exact hc.2.2.1
      rw [hp2, u2.1]
      by_cases c : M.1 1 i ≠ -1 ∧ pE (prm β) M.1 i = t
      · rw [if_neg c.1, zI_of (by omega) (by omega), if_pos (by omega)]
        have hlen : (M.2.2.1 ++ (List.range i).filter (fun b => decide (M.1 1 b ≠ -1) && decide (pE (prm β) M.1 b = t))).length < 60 := by
          have h2 := hpi.2
          rw [List.length_append] at h2
          simp [c.1, c.2] at h2 ⊢
          omega
        simp (disch := omega) only [zI_of, if_neg, xck_of, tn_cast]
        refine hrec _ ⟨by dsimp only; omega, ?_, ?_, fun k j a1 a2 a3 => ?_⟩
        · refine RQ_of u1 ?_ (fun i' hi' => ?_)
          · dsimp only; rw [xput_ne (by omega), xput_ne (by omega)]
          · dsimp only; rw [xput_ne (by omega), xput_ne (by omega)]
        · have := RQ_app (i := i) u2 (by omega)
          have e2 : (List.range (i + 1)).filter (fun b => decide (M.1 1 b ≠ -1) && decide (pE (prm β) M.1 b = t)) = (List.range i).filter (fun b => decide (M.1 1 b ≠ -1) && decide (pE (prm β) M.1 b = t)) ++ [i] := by
            rw [List.range_succ, List.filter_append]
            simp [c.1, c.2]
          rw [e2, ← List.append_assoc]
          exact this
        · dsimp only
          rw [xput_ne (by omega), xput_ne (by omega)]
          exact u3 k j a1 a2 a3
      · have hne : ¬ zI (if M.1 1 i = -1 then -1 else pE (prm β) M.1 i + f) = t + f := by
          by_cases c1 : M.1 1 i = -1
          · rw [if_pos c1, zI_of (by omega) (by omega)]
            omega
          · rw [if_neg c1, zI_of (by omega) (by omega)]
            intro z
            exact c ⟨c1, by omega⟩
        rw [if_neg hne]
        refine hrec _ ⟨by dsimp only; omega, u1, ?_, u3⟩
        have e2 : (List.range (i + 1)).filter (fun b => decide (M.1 1 b ≠ -1) && decide (pE (prm β) M.1 b = t)) = (List.range i).filter (fun b => decide (M.1 1 b ≠ -1) && decide (pE (prm β) M.1 b = t)) := by
          rw [List.range_succ, List.filter_append]
          have : (decide (M.1 1 i ≠ -1) && decide (pE (prm β) M.1 i = t)) = false := by
            cases z : (decide (M.1 1 i ≠ -1) && decide (pE (prm β) M.1 i = t)) with
            | false => rfl
            | true => simp at z; exact absurd z c
          rw [List.filter_cons_of_neg (by rw [this]; decide)]
          simp
        rw [e2]
        exact u2
    rw [hc.2.1]
    by_cases c : M.1 0 i ≠ -1 ∧ rE (prm β) M.1 i = t
    · rw [if_neg c.1, zI_of (n := rE (prm β) M.1 i + f) (by omega) (by omega), if_pos (by omega), g2.1]
      have hlen : (M.2.1 ++ (List.range i).filter (fun b => decide (M.1 0 b ≠ -1) && decide (rE (prm β) M.1 b = t))).length < 60 := by
        have h2 := hpi.1
        rw [List.length_append] at h2
        simp [c.1, c.2] at h2 ⊢
        omega
      simp (disch := omega) only [zI_of (n := (((M.2.1 ++ (List.range i).filter (fun b => decide (M.1 0 b ≠ -1) && decide (rE (prm β) M.1 b = t))).length : Nat) : Int)), if_neg, xck_of, tn_cast]
      refine second _ ?_ ?_ (fun k j a1 a2 a3 => ?_)
      · have := RQ_app (i := i) g2 (by omega)
        have e2 : (List.range (i + 1)).filter (fun b => decide (M.1 0 b ≠ -1) && decide (rE (prm β) M.1 b = t)) = (List.range i).filter (fun b => decide (M.1 0 b ≠ -1) && decide (rE (prm β) M.1 b = t)) ++ [i] := by
          rw [List.range_succ, List.filter_append]
          simp [c.1, c.2]
        rw [e2, ← List.append_assoc]
        exact this
      · refine RQ_of g3 ?_ (fun i' hi' => ?_)
        · rw [xput_ne (by omega), xput_ne (by omega)]
        · rw [xput_ne (by omega), xput_ne (by omega)]
      · rw [xput_ne (by omega), xput_ne (by omega)]
        exact g4 k j a1 a2 a3
    · have hne : ¬ zI (if M.1 0 i = -1 then -1 else rE (prm β) M.1 i + f) = t + f := by
        by_cases c1 : M.1 0 i = -1
        · rw [if_pos c1, zI_of (by omega) (by omega)]
          omega
        · rw [if_neg c1, zI_of (by omega) (by omega)]
          intro z
          exact c ⟨c1, by omega⟩
      rw [if_neg hne]
      refine second τ ?_ g3 g4
      have e2 : (List.range (i + 1)).filter (fun b => decide (M.1 0 b ≠ -1) && decide (rE (prm β) M.1 b = t)) = (List.range i).filter (fun b => decide (M.1 0 b ≠ -1) && decide (rE (prm β) M.1 b = t)) := by
        rw [List.range_succ, List.filter_append]
        have : (decide (M.1 0 i ≠ -1) && decide (rE (prm β) M.1 i = t)) = false := by
          cases z : (decide (M.1 0 i ≠ -1) && decide (rE (prm β) M.1 i = t)) with
          | false => rfl
          | true => simp at z; exact absurd z c
        rw [List.filter_cons_of_neg (by rw [this]; decide)]
        simp
      rw [e2]
      exact g2
  · rintro ⟨s1, τ⟩ ⟨g1, g2, g3, g4⟩ rec
    dsimp only at g1 g2 g3 g4 ⊢
    subst g1
    have hR : RN τ q β f M.1 := RN_of hRN (g4 _ _ (by omega) (by omega) (by omega)) (g4 _ _ (by omega) (by omega) (by omega)) (fun k j a c d e g => g4 k j (by omega) (by omega) (by omega))
    have r2 := hR.2.1
    simp (disch := omega) only [zI_of, r2, if_pos]
    refine loop_for (β 5).toNat (fun i (s : Int × xS) => s.1 = (i : Int) ∧ (∀ o, o < i → s.2 (q + 18) o = used (prm β) M.1 o t) ∧ (∀ k j, k ≠ q + 18 → s.2 k j = τ k j)) ?_ ?_ (by omega) ⟨rfl, fun o ho => absurd ho (Nat.not_lt_zero _), fun _ _ _ => rfl⟩
    · rintro i ⟨s1, τ'⟩ hi ⟨u1, u2, u3⟩ rec2 hrec2
      dsimp only at u1 u2 u3 ⊢
      subst u1
      have hR' : RN τ' q β f M.1 := RN_of hR (u3 _ _ (by omega)) (u3 _ _ (by omega)) (fun k j _ _ _ _ _ => u3 k j (by omega))
      have hB' : Bk τ' b β e := Bk_same hB hV (fun k j a c => by rw [u3 k j (by omega)]; exact g4 k j (by omega) (by omega) (by omega))
      have b5 := hB'.2.2.2.2.2.1
      have hsh := c_shelvesTaken hR' hP hN hn hf (m := t + f) (by omega) (o := i) (by omega)
      rw [show t + f - f = t by omega] at hsh
      simp (disch := omega) only [zI_of, b5, if_neg, hsh, bind_some', xck_of, tn_cast, xlet_eq]
      refine hrec2 _ ⟨by dsimp only; omega, fun o ho => ?_, fun k j a => ?_⟩
      · dsimp only
        by_cases c : o = i
        · rw [c, xput_eq]
        · rw [xput_ne (by omega)]
          exact u2 o (by omega)
      · dsimp only
        rw [xput_ne (by omega)]
        exact u3 k j a
    · rintro ⟨s1, τ'⟩ ⟨u1, u2, u3⟩ rec2
      dsimp only at u1 u2 u3 ⊢
      subst u1
      have hB' : Bk τ' b β e := Bk_same hB hV (fun k j a c => by rw [u3 k j (by omega)]; exact g4 k j (by omega) (by omega) (by omega))
      have b5 := hB'.2.2.2.2.2.1
      rw [show (((β 5).toNat : Nat) : Int) = β 5 by omega]
      simp (disch := omega) only [zI_of, b5, if_pos]
      refine OK_some ⟨⟨?_, ?_, ?_, ?_⟩, fun o ho => u2 o (by omega), fun k j hk => ?_⟩
      · exact RN_of hR (u3 _ _ (by omega)) (u3 _ _ (by omega)) (fun k j _ _ _ _ _ => u3 k j (by omega))
      · exact RQ_of g2 (u3 _ _ (by omega)) (fun i _ => u3 _ _ (by omega))
      · exact RQ_of g3 (u3 _ _ (by omega)) (fun i _ => u3 _ _ (by omega))
      · rw [u3 _ _ (by omega), g4 _ _ (by omega) (by omega) (by omega)]
        exact hm
      · rw [u3 k j (by omega)]
        exact g4 k j (by omega) (by omega) (by omega)
end CM
