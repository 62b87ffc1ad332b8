/-! the reference's night: a minute, the whole -/
section RNR
variable {σ : xS} {k n : Nat} {β : Nat → Int} {u t : Int} {N : Nat → Nat → Int} {M : NS}
theorem bOK_up {P : NP} {b : Nat} (h : bOK P N t b) : bOK P N (t + 1) b := by
  unfold bOK at h ⊢
  omega
theorem RX_34 {v : Int} (hX : RX σ β M u t) : RX (xput σ 184 34 v) β M u v := by
  obtain ⟨⟨h19, hRB, hRO, hQ1, hQ2⟩, h34, h35, h36, h37, h38⟩ := hX
  refine ⟨⟨?_, fun b hb => ?_, fun o ho => ?_, ?_, ?_⟩, xput_eq, ?_, ?_, ?_, ?_⟩
  · rw [xput_ne (by omega)]; exact h19
  · refine RB_of (hRB b hb) (fun r hr => rfl) ?_ ?_ ?_ (fun r hr => ?_) ?_ ?_ ?_
    all_goals rw [xput_ne (by omega)]
  · refine RO_same (hRO o ho) rfl rfl rfl ?_ ?_ ?_ ?_
    all_goals rw [xput_ne (by omega)]
  · exact RQ_of hQ1 (xput_ne (by omega)) (fun i _ => xput_ne (by omega))
  · exact RQ_of hQ2 (xput_ne (by omega)) (fun i _ => xput_ne (by omega))
  · rw [xput_ne (by omega)]; exact h35
  · rw [xput_ne (by omega)]; exact h36
  · rw [xput_ne (by omega)]; exact h37
  · rw [xput_ne (by omega)]; exact h38
theorem r_minute (hk : 185 ≤ k ∧ k ≤ 187) (hβ : σ k = β) (hV : V β) (hP : PV (prm β)) (hX : RX σ β M (t - 1) t) (I : Minv (prm β) t M) (hcap : shN (prm β) M.1 (t - 1) ≤ pk (prm β)) (hn : 4000000 ≤ n) (ht : 0 ≤ t ∧ t ≤ 150000) {P : xS → Prop} {K : xS → Option xS}
    (hK : ∀ τ, RX τ β (mstep (prm β) t M) t t → rfr σ τ → OK (K τ) P) :
    OK ((m_X13_endsAll n k σ).bind fun s9 => (m_X13_spoils n k s9).bind fun s10 => (m_X13_bakes n k s10).bind fun s11 => (m_X13_shapes n k s11).bind fun s12 => (m_X13_mixes n k s12).bind K) P := by
  have hNB := NB_of hP I (by omega)
  have hqs := queS hP I ht.1
  have hqo := queO hP I ht.1
  have hBI := sBI hP I ht.1
  have h60 : (bl β).length ≤ 60 := hP.2.2.1
  have epn : pn (prm β) = (bl β).length := rfl
  have hbo : ∀ b, b < (bl β).length → bOK (prm β) M.1 t b := fun b hb => bOK_of hP I ht.1 hb
  have hlt : ∀ c, M.1 1 c ≠ -1 → c < (bl β).length := fun c hc => by
    rcases I.2.2.1 c with z | z
    · exact absurd z hc
    · have := I.1; omega
  have hsm : ∀ c, c ∈ sQs (prm β) t M → c < (bl β).length := fun c hc => by
    have := (hqs.1 c).mp hc
    have := I.1
    omega
  have hom : ∀ c, c ∈ sQo (prm β) t M → c < (bl β).length ∧ M.1 1 c ≠ -1 ∧ pE (prm β) M.1 c ≤ t ∧ M.1 2 c = -1 ∧ M.1 3 c = -1 := fun c hc => by
    have := (hqo.1 c).mp hc
    exact ⟨hlt c this.1, this⟩
  have hl1 : (sQs (prm β) t M).length ≤ 60 := Nat.le_trans (nodup_le _ (qR_ne hqs.2) hsm) h60
  have hl2 : (sQo (prm β) t M).length ≤ 60 := Nat.le_trans (nodup_le _ (qR_ne hqo.2) (fun c hc => (hom c hc).1)) h60
  have hl3 : (sQk (prm β) t M).length ≤ 60 := Nat.le_trans (List.filter_sublist (l := sQo (prm β) t M) (p := fun b => !lateB (prm β) M.1 t b)).length_le hl2
  refine OK_bind (r_endsAll hk hβ hV hP I hX hn ht) (fun τ1 h1 => ?_)
  obtain ⟨c1, f1⟩ := h1
  have hk1 : τ1 k = β := by rw [f1.row hk]; exact hβ
  refine OK_bind (r_spoils hk hk1 hV hP c1 hNB.1 hn ht hl2 (fun b hb => by
    have h := hbo b hb
    unfold bOK at h
    show M.1 3 b ≤ t
    omega) hom hqo.2) (fun τ2 h2 => ?_)
  obtain ⟨c2, f2⟩ := h2
  have esp : spoilR (prm β) t M.1 (sQo (prm β) t M) = (sN1 (prm β) t M, sQk (prm β) t M) := spoilR_eq t M.1 _
  dsimp only at c2
  rw [esp] at c2
  dsimp only at c2
  have hk2 : τ2 k = β := by rw [f2.row hk]; exact hk1
  have eN : ∀ r x, r ≠ 3 → sN1 (prm β) t M r x = M.1 r x := fun r x hr => by simp [sN1, hr]
  have hNB1 : NB (prm β) (sN1 (prm β) t M) := by
    obtain ⟨n1, n2, n3⟩ := hNB.1
    refine ⟨fun x hx r hr => ?_, fun x hx => ?_, fun o ho => ?_⟩
    · by_cases r3 : r = 3
      · subst r3
        have := n1 x hx 3 (by omega)
        simp only [sN1]
        split <;> omega
      · rw [eN r x r3]; exact n1 x hx r hr
    · rw [eN 4 x (by decide)]; exact n2 x hx
    · rw [eN 5 o (by decide), eN 6 o (by decide), eN 7 o (by decide)]; exact n3 o ho
  have h7 : ∀ o, o < pv (prm β) → sN1 (prm β) t M 7 o ≤ 90000000 := fun o ho => by
    rw [eN 7 o (by decide)]
    have := hNB.2 o ho
    omega
  have hbo1 : ∀ b, b < (bl β).length → bOK (prm β) (sN1 (prm β) t M) (t + 1) b := fun b hb => by
    have h := hbo b hb
    have hT := hP.1 b hb
    have e3 : sN1 (prm β) t M 3 b = if b ∈ sQo (prm β) t M ∧ lateB (prm β) M.1 t b = true then t else M.1 3 b := by simp [sN1]
    unfold bOK at h ⊢
    rw [eN 0 b (by decide), eN 1 b (by decide), eN 2 b (by decide), rE_congr (P := prm β) (eN 0 b (by decide)), pE_congr (P := prm β) (eN 1 b (by decide)), e3]
    by_cases z : b ∈ sQo (prm β) t M ∧ lateB (prm β) M.1 t b = true
    · rw [if_pos z]
      obtain ⟨_, q1, q2, q3, q4⟩ := hom b z.1
      have hl := late_iff.mp z.2
      omega
    · rw [if_neg z]
      omega
  have hkm : ∀ c, c ∈ sQk (prm β) t M → c < (bl β).length ∧ sN1 (prm β) t M 1 c ≠ -1 ∧ pE (prm β) (sN1 (prm β) t M) c ≤ t ∧ sN1 (prm β) t M 2 c = -1 ∧ sN1 (prm β) t M 3 c = -1 := fun c hc => by
    have hm := sQk_mem.mp hc
    obtain ⟨q0, q1, q2, q3, q4⟩ := hom c hm.1
    refine ⟨q0, by rw [eN 1 c (by decide)]; exact q1, by rw [pE_congr (P := prm β) (eN 1 c (by decide))]; exact q2, by rw [eN 2 c (by decide)]; exact q3, ?_⟩
    have e3 : sN1 (prm β) t M 3 c = if c ∈ sQo (prm β) t M ∧ lateB (prm β) M.1 t c = true then t else M.1 3 c := by simp [sN1]
    rw [e3, if_neg (fun z => hm.2 (late_iff.mp z.2))]
    exact q4
  refine OK_bind (r_bakes hk hk2 hV hP c2 hNB1 h7 hn ht hl3 hbo1 hkm (hqo.2.sublist List.filter_sublist)) (fun τ3 h3 => ?_)
  obtain ⟨c3, f3⟩ := h3
  dsimp only at c3
  have hk3 : τ3 k = β := by rw [f3.row hk]; exact hk2
  have hNBA := NB_BI hNB1 h7 ht hBI
  have hAr : ∀ r, r ≠ 2 → r ≠ 4 → r ≠ 5 → r ≠ 6 → r ≠ 7 → (sA (prm β) t M).1 r = sN1 (prm β) t M r := hBI.1
  have a0 := hAr 0 (by decide) (by decide) (by decide) (by decide) (by decide)
  have a1 := hAr 1 (by decide) (by decide) (by decide) (by decide) (by decide)
  have a3 := hAr 3 (by decide) (by decide) (by decide) (by decide) (by decide)
  have hboA : ∀ b, b < (bl β).length → bOK (prm β) (sA (prm β) t M).1 (t + 1) b := fun b hb => by
    have h := hbo1 b hb
    unfold bOK at h ⊢
    rw [a0, a1, a3, rE_congr (P := prm β) (N := sN1 (prm β) t M) (N' := (sA (prm β) t M).1) (b := b) (by rw [a0]), pE_congr (P := prm β) (N := sN1 (prm β) t M) (N' := (sA (prm β) t M).1) (b := b) (by rw [a1])]
    refine ⟨h.1, h.2.1, h.2.2.1, ?_, h.2.2.2.2⟩
    by_cases z : b ∈ sQk (prm β) t M
    · obtain ⟨_, q1, q2, q3, q4⟩ := hkm b z
      rcases hBI.2.2.1 b z with y | y
      · rw [y.1]; exact Or.inr ⟨q1, q2, by omega, q4⟩
      · rw [y.1]; exact h.2.2.2.1
    · rw [(hBI.2.1 b z).1]; exact h.2.2.2.1
  have hcA := (Cap_step hP I ht.1 hcap).1
  have hsA : ∀ c, c ∈ sQs (prm β) t M → c < (bl β).length ∧ (sA (prm β) t M).1 1 c = -1 ∧ (sA (prm β) t M).1 0 c ≠ -1 ∧ rE (prm β) (sA (prm β) t M).1 c ≤ t := fun c hc => by
    have h := (hqs.1 c).mp hc
    have h0 := (I.2.1 c).1 h.1
    rw [a0, a1, eN 0 c (by decide), eN 1 c (by decide), rE_congr (P := prm β) (N := M.1) (N' := (sA (prm β) t M).1) (b := c) (by rw [a0, eN 0 c (by decide)])]
    exact ⟨hsm c hc, h.2.2, by omega, h.2.1⟩
  refine OK_bind (r_shapes (M := ((sA (prm β) t M).1, sQs (prm β) t M, (sA (prm β) t M).2, M.2.2.2)) hk hk3 hV hP c3 hNBA hn ht hl1 hboA hcA hsA hqs.2) (fun τ4 h4 => ?_)
  obtain ⟨c4, f4⟩ := h4
  have hk4 : τ4 k = β := by rw [f4.row hk]; exact hk3
  have e3 : shapeR t (sA (prm β) t M).1 ((sQs (prm β) t M).take (sK (prm β) t M)) = sN3 (prm β) t M := shapeR_eq t _ _
  change RX τ4 β (shapeR t (sA (prm β) t M).1 ((sQs (prm β) t M).take (sK (prm β) t M)), (sQs (prm β) t M).drop (sK (prm β) t M), (sA (prm β) t M).2, M.2.2.2) t t at c4
  rw [e3] at c4
  have e3r : ∀ r x, r ≠ 1 → sN3 (prm β) t M r x = (sA (prm β) t M).1 r x := fun r x hr => by simp [sN3, hr]
  have hbo3 : ∀ b, b < (bl β).length → bOK (prm β) (sN3 (prm β) t M) (t + 1) b := fun b hb => by
    have h := hboA b hb
    have e1 : sN3 (prm β) t M 1 b = if b ∈ (sQs (prm β) t M).take (sK (prm β) t M) then t else (sA (prm β) t M).1 1 b := by simp [sN3]
    by_cases z : b ∈ (sQs (prm β) t M).take (sK (prm β) t M)
    · obtain ⟨_, q1, q2, q3⟩ := hsA b (List.mem_of_mem_take z)
      rw [if_pos z] at e1
      unfold bOK at h ⊢
      rw [e1, e3r 0 b (by decide), e3r 2 b (by decide), e3r 3 b (by decide), rE_congr (P := prm β) (e3r 0 b (by decide))]
      refine ⟨h.1, h.2.1, Or.inr ⟨q2, q3, by omega⟩, ?_, ?_⟩ <;> omega
    · rw [if_neg z] at e1
      unfold bOK at h ⊢
      rw [e1, e3r 0 b (by decide), e3r 2 b (by decide), e3r 3 b (by decide), rE_congr (P := prm β) (e3r 0 b (by decide)), pE_congr (P := prm β) e1]
      exact h
  have hm0 : ∀ b, (b < M.2.2.2 → sN3 (prm β) t M 0 b ≠ -1) ∧ (M.2.2.2 ≤ b → sN3 (prm β) t M 0 b = -1) := fun b => by
    rw [e3r 0 b (by decide), a0, eN 0 b (by decide)]
    have h := I.2.1 b
    exact ⟨fun z => by have := h.1 z; omega, h.2⟩
  refine OK_bind (r_mixes hk hk4 hV hP c4 hn ht hbo3 I.1 hm0) (fun τ5 h5 => ?_)
  obtain ⟨c5, f5⟩ := h5
  refine hK τ5 ?_ ((((f1.trans f2).trans f3).trans f4).trans f5)
  rw [mstep_eq]
  exact c5
end RNR
