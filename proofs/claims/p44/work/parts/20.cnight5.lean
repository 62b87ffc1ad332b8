/-! the class's minute: shaping, mixing, the next minute -/
section CH
variable {σ : xS} {q b n : Nat} {β : Nat → Int} {e f t : Int} {N : Nat → Nat → Int} {M : NS}
theorem cnt_bd {n : Nat} (p : Nat → Bool) : 0 ≤ sumTo n (fun i => if p i = true then (1 : Int) else 0) ∧ sumTo n (fun i => if p i = true then (1 : Int) else 0) ≤ n := by
  have h := sumTo_bd (n := n) (f := fun i => if p i = true then (1 : Int) else 0) (lo := 0) (hi := 1) (fun i _ => by split <;> omega)
  omega
/-- a batch is shaped -/
theorem RN_shape {σ' : xS} {c : Nat} (h : RN σ q β f N) (hcn : c < (bl β).length) (ht : 0 ≤ t) (e1 : σ' (q + 4 + 2) c = t + f) (e2 : σ' (q + 4 + 3) c = t + f + pT (prm β) c 2) (e3 : σ' (q + 11) c = t + f + pT (prm β) c 2 + pT (prm β) c 3) (h2 : N 2 c = -1)
    (ho : ∀ k j, ¬ (k = q + 4 + 2 ∧ j = c) → ¬ (k = q + 4 + 3 ∧ j = c) → ¬ (k = q + 11 ∧ j = c) → σ' k j = σ k j) (hT : 1 ≤ pT (prm β) c 2 ∧ 0 ≤ pT (prm β) c 3) : RN σ' q β f (xput N 1 c t) := by
  have h' := h
  obtain ⟨r0, r2, rd, rb, rc, ro⟩ := h
  have eN : ∀ r, r ≠ 1 → xput N 1 c t r c = N r c := fun r h => xput_ne (by omega)
  have eN1 : xput N 1 c t 1 c = t := xput_eq
  refine RN_one (c := c) h' (ho _ _ (by omega) (by omega) (by omega)) (ho _ _ (by omega) (by omega) (by omega)) (fun j => ho _ _ (by omega) (by omega) (by omega)) (fun x hx => ⟨fun r hr => xput_ne (by omega), fun k h1 h2 h3 => ho _ _ (by omega) (by omega) (by omega)⟩) ⟨fun r hr => ?_, ?_, ?_, ?_, ?_⟩ (fun o ho' => ?_)
  · by_cases a2 : r = 2
    · subst a2
      rw [e1]
      show _ = shF f _
      rw [eN1]
      exact (if_neg (by omega)).symm
    · by_cases a3 : r = 3
      · subst a3
        rw [e2]
        show _ = if _ then _ else _
        rw [eN1, if_neg (by omega)]
        omega
      · rw [ho _ _ (by omega) (by omega) (by omega), rb c hcn r hr]
        have r3 : r = 0 ∨ r = 1 ∨ r = 4 ∨ r = 5 := by omega
        rcases r3 with rfl | rfl | rfl | rfl <;> simp only [bgF, eN 0 (by omega), eN 2 (by omega)]
  · rw [ho _ _ (by omega) (by omega) (by omega), (rc c hcn).1, eN 4 (by omega)]
  · rw [ho _ _ (by omega) (by omega) (by omega), (rc c hcn).2.1]
    simp only [eN 0 (by omega), rE_congr (P := prm β) (eN 0 (by omega))]
  · rw [e3, eN1, if_neg (by omega)]
    unfold pE
    rw [eN1]
    omega
  · rw [ho _ _ (by omega) (by omega) (by omega), (rc c hcn).2.2.2, eN 3 (by omega)]
  · rw [ho _ _ (by omega) (by omega) (by omega), ho _ _ (by omega) (by omega) (by omega), ho _ _ (by omega) (by omega) (by omega), xput_ne (by omega), xput_ne (by omega), xput_ne (by omega)]
    exact ro o ho'
/-- a batch is mixed -/
theorem RN_mix {σ' : xS} {c : Nat} (h : RN σ q β f N) (hcn : c < (bl β).length) (ht : 0 ≤ t) (e1 : σ' (q + 4 + 0) c = t + f) (e2 : σ' (q + 4 + 1) c = t + f + pT (prm β) c 0) (e3 : σ' (q + 10) c = t + f + pT (prm β) c 0 + pT (prm β) c 1)
    (ho : ∀ k j, ¬ (k = q + 4 + 0 ∧ j = c) → ¬ (k = q + 4 + 1 ∧ j = c) → ¬ (k = q + 10 ∧ j = c) → ¬ (k = q ∧ j = 9) → σ' k j = σ k j) : RN σ' q β f (xput N 0 c t) := by
  have h' := h
  obtain ⟨r0, r2, rd, rb, rc, ro⟩ := h
  have eN : ∀ r, r ≠ 0 → xput N 0 c t r c = N r c := fun r h => xput_ne (by omega)
  have eN1 : xput N 0 c t 0 c = t := xput_eq
  refine RN_one (c := c) h' (ho _ _ (by omega) (by omega) (by omega) (by omega)) (ho _ _ (by omega) (by omega) (by omega) (by omega)) (fun j => ho _ _ (by omega) (by omega) (by omega) (by omega)) (fun x hx => ⟨fun r hr => xput_ne (by omega), fun k h1 h2 h3 => ho _ _ (by omega) (by omega) (by omega) (by omega)⟩) ⟨fun r hr => ?_, ?_, ?_, ?_, ?_⟩ (fun o ho' => ?_)
  · by_cases a2 : r = 0
    · subst a2
      rw [e1]
      show _ = shF f _
      rw [eN1]
      exact (if_neg (by omega)).symm
    · by_cases a3 : r = 1
      · subst a3
        rw [e2]
        show _ = if _ then _ else _
        rw [eN1, if_neg (by omega)]
        omega
      · rw [ho _ _ (by omega) (by omega) (by omega) (by omega), rb c hcn r hr]
        have r3 : r = 2 ∨ r = 3 ∨ r = 4 ∨ r = 5 := by omega
        rcases r3 with rfl | rfl | rfl | rfl <;> simp only [bgF, eN 1 (by omega), eN 2 (by omega)]
  · rw [ho _ _ (by omega) (by omega) (by omega) (by omega), (rc c hcn).1, eN 4 (by omega)]
  · rw [e3, eN1, if_neg (by omega)]
    unfold rE
    rw [eN1]
    omega
  · rw [ho _ _ (by omega) (by omega) (by omega) (by omega), (rc c hcn).2.2.1]
    simp only [eN 1 (by omega), pE_congr (P := prm β) (eN 1 (by omega))]
  · rw [ho _ _ (by omega) (by omega) (by omega) (by omega), (rc c hcn).2.2.2, eN 3 (by omega)]
  · rw [ho _ _ (by omega) (by omega) (by omega) (by omega), ho _ _ (by omega) (by omega) (by omega) (by omega), ho _ _ (by omega) (by omega) (by omega) (by omega), xput_ne (by omega), xput_ne (by omega), xput_ne (by omega)]
    exact ro o ho'
theorem shapeR_take {Q : List Nat} {i : Nat} (h : i < Q.length) : shapeR t N (Q.take (i + 1)) = xput (shapeR t N (Q.take i)) 1 (Q.getD i 0) t := foldl_take _ _ _ 0 h
theorem c_shape (hB : Bk σ b β e) (hV : V β) (hP : PV (prm β)) (hC : RC σ q β f M) (hN : NB (prm β) M.1) (hn : 4000000 ≤ n) (hq : b + 54 ≤ q) (hf : 0 ≤ f ∧ f ≤ 1439) (ht : 0 ≤ t ∧ t ≤ 150000) (hl : M.2.1.length ≤ 60) (hQ : ∀ c, c ∈ M.2.1 → c < (bl β).length ∧ M.1 2 c = -1) :
    OK (m_X4_shapeWaiting n q b (t + f) σ) (fun σ' => RC σ' q β f (shapeR t M.1 (M.2.1.take (shCnt (prm β) M.1 t M.2.1.length)), M.2.1.drop (shCnt (prm β) M.1 t M.2.1.length), M.2.2.1, M.2.2.2) ∧ nfr q σ σ') := by
  have h60 : (bl β).length ≤ 60 := hP.2.2.1
  have v3 := hV.2.2.2.1
  have b3 := hB.2.2.2.1
  have hiu := c_inUse hC.1 hP hN hn hf (m := t + f) (by omega) (s := 1) (by omega)
  rw [show t + f - f = t by omega] at hiu
  change m_X4_inUse n q 2 (t + f) σ = some (shN (prm β) M.1 t) at hiu
  have hcb : 0 ≤ shN (prm β) M.1 t ∧ shN (prm β) M.1 t ≤ (bl β).length := cnt_bd (n := (bl β).length) (shB (prm β) M.1 t)
  obtain ⟨hRN, hQs, hQo, hm⟩ := hC
  have hQs1 := hQs.1
  have epk : pk (prm β) = β 3 := rfl
  unfold m_X4_shapeWaiting
  rw [hiu, bind_some', hQs1, b3, xlet_eq, zmax_of (by omega) (by omega) (by omega) (by omega), zmin_of (by omega) (by omega) (by omega) (by omega)]
  have ek : min (M.2.1.length : Int) (max 0 (β 3 - shN (prm β) M.1 t)) = ((shCnt (prm β) M.1 t M.2.1.length : Nat) : Int) := by
    unfold shCnt
    rw [epk]
    omega
  rw [ek]
  have hk : shCnt (prm β) M.1 t M.2.1.length ≤ M.2.1.length := by omega
  generalize shCnt (prm β) M.1 t M.2.1.length = k at hk ⊢
  refine loop_for k (fun i (s : Int × xS) => s.1 = (i : Int) ∧ RN s.2 q β f (shapeR t M.1 (M.2.1.take i)) ∧ (∀ r c, r ≠ 1 → shapeR t M.1 (M.2.1.take i) r c = M.1 r c) ∧ (∀ k j, (k < q ∨ q + 21 ≤ k ∨ k = q ∨ k = q + 13 ∨ k = q + 14) → s.2 k j = σ k j)) ?_ ?_ (by omega) ⟨rfl, by simpa [shapeR] using hRN, fun r c _ => by simp [shapeR], fun _ _ _ => rfl⟩
  · rintro i ⟨s1, τ⟩ hi ⟨g1, g2, g3, g4⟩ rec hrec
    dsimp only at g1 g2 g4 ⊢
    subst g1
    have hi' : i < M.2.1.length := by omega
    have hcm := getD_mem hi'
    have hx : τ (q + 13) i = (((M.2.1.getD i 0 : Nat)) : Int) := by rw [g4 _ _ (by omega)]; exact hQs.2 i hi'
    have hst := shapeR_take (t := t) (N := M.1) hi'
    generalize M.2.1.getD i 0 = c at hcm hx hst
    obtain ⟨hcn, hc2⟩ := hQ c hcm
    have hBt : Bk τ b β e := Bk_same hB hV (fun k j a d => g4 k j (by omega))
    obtain ⟨hd1, hd2, hd3⟩ := c_dough hBt hV g2 hcn
    have hT := hP.1 c hcn
    have hd := bl_d hV hcn
    have vd := hV.2.2.2.2.2.2.2.2.2.2.1 _ hd
    have h2 : dF β ((bl β).getD c 0) 2 = pT (prm β) c 2 := rfl
    have h3 : upD (24 * dF β ((bl β).getD c 0) 3) (β 0) = pT (prm β) c 3 := rfl
    have e55 : ∀ (j1 j2 : Nat) (v1 v2 : Int), (xput (xput τ (q + 4 + 2) j1 v1) (q + 4 + 3) j2 v2) (b + 2 + (bl β).getD c 0) 3 = dF β ((bl β).getD c 0) 3 := fun j1 j2 v1 v2 => by
      rw [xput_ne (by omega), xput_ne (by omega)]
      exact hd3 3 (by omega)
    have e56 : ∀ (j1 : Nat) (v1 : Int), (xput τ (q + 4 + 2) j1 v1) (b + 2 + (bl β).getD c 0) 2 = pT (prm β) c 2 := fun j1 v1 => by
      rw [xput_ne (by omega)]
      exact hd3 2 (by omega)
    have e57 : ∀ (j1 j2 : Nat) (v1 v2 : Int), m_X1_inThisRoom b (dF β ((bl β).getD c 0) 3) (xput (xput τ (q + 4 + 2) j1 v1) (q + 4 + 3) j2 v2) = some (pT (prm β) c 3) := fun j1 j2 v1 v2 => by
      rw [c_inThisRoom (Bk_same hBt hV (fun k j a d => by rw [xput_ne (by omega), xput_ne (by omega)])) hV vd.2.2.2.1.1 vd.2.2.2.1.2, h3]
    simp (disch := omega) only [zI_of, if_neg, xck_of, tn_cast, tn_lit, xlet_eq, hx, hd1, e55, e56, e57, bind_some']
    refine hrec _ ⟨by dsimp only; omega, ?_, fun r c' hr => ?_, fun k j hk => ?_⟩
    · dsimp only
      rw [hst]
      refine RN_shape g2 hcn ht.1 ?_ ?_ ?_ ?_ (fun k j h1 h2 h3 => ?_) ⟨hT.2.2.1.1, hT.2.2.2.1.1⟩
      · rw [xput_ne (by omega), xput_ne (by omega), xput_eq]
      · rw [xput_ne (by omega), xput_eq]
      · rw [xput_eq, xput_eq]
      · rw [g3 2 c (by omega)]; exact hc2
      · rw [xput_ne h3, xput_ne h2, xput_ne h1]
    · rw [hst, xput_ne (by omega)]
      exact g3 r c' hr
    · dsimp only
      rw [xput_ne (by omega), xput_ne (by omega), xput_ne (by omega)]
      exact g4 k j hk
  · rintro ⟨s1, τ⟩ ⟨g1, g2, g3, g4⟩ rec
    dsimp only at g1 g2 g4 ⊢
    subst g1
    have e11 : τ q 11 = (M.2.1.length : Int) := by rw [g4 _ _ (by omega)]; exact hQs1
    have ex : (xput τ q 11 (τ q 11 - (k : Int))) q 11 = ((M.2.1.length - k : Nat) : Int) := by rw [xput_eq, e11]; omega
    simp (disch := omega) only [zI_of, if_pos, xlet_eq, ex, xcc_of]
    refine OK_some ⟨⟨?_, ⟨?_, fun i hi => ?_⟩, ?_, ?_⟩, fun k' j hk => ?_⟩
    · refine RN_of g2 ?_ ?_ (fun k' j h1 h2 h3 h4 h5 => ?_)
      · simp only [xcpy]; rw [if_neg (by omega), xput_ne (by omega)]
      · simp only [xcpy]; rw [if_neg (by omega), xput_ne (by omega)]
      · simp only [xcpy]; rw [if_neg (by omega), xput_ne (by omega)]
    · simp only [xcpy]
      rw [if_neg (by omega), ex, List.length_drop]
    · rw [List.length_drop] at hi
      simp only [xcpy, if_true, va_cpy, tn_lit, tn_cast]
      rw [if_pos ⟨by omega, by omega⟩, xput_ne (by omega), g4 _ _ (by omega), hQs.2 _ (by omega)]
      unfold lG
      rw [List.getD_eq_getElem?_getD, List.getD_eq_getElem?_getD, List.getElem?_drop]
      simp
    · refine RQ_of hQo ?_ (fun i _ => ?_)
      · simp only [xcpy]; rw [if_neg (by omega), xput_ne (by omega)]; exact g4 _ _ (by omega)
      · simp only [xcpy]; rw [if_neg (by omega), xput_ne (by omega)]; exact g4 _ _ (by omega)
    · simp only [xcpy]; rw [if_neg (by omega), xput_ne (by omega), g4 _ _ (by omega)]; exact hm
    · simp only [xcpy]; rw [if_neg (by omega), xput_ne (by omega)]; exact g4 _ _ (by omega)
theorem mixR_succ {m j : Nat} : mixR N t m (m + (j + 1)) = xput (mixR N t m (m + j)) 0 (m + j) t := by
  funext r c
  simp only [mixR, xput_at']
  by_cases h : r = 0
  · subst h
    by_cases h2 : c = m + j
    · subst h2
      rw [if_pos (by omega), if_pos ⟨rfl, rfl⟩]
    · rw [if_neg (c := 0 = 0 ∧ c = m + j) (by omega)]
      by_cases h3 : m ≤ c ∧ c < m + j
      · rw [if_pos (by omega), if_pos (by omega)]
      · rw [if_neg (by omega), if_neg (by omega)]
  · rw [if_neg (by omega), if_neg (by omega), if_neg (by omega)]
theorem c_mix (hB : Bk σ b β e) (hV : V β) (hP : PV (prm β)) (hC : RC σ q β f M) (hN : NB (prm β) M.1) (hn : 4000000 ≤ n) (hq : b + 54 ≤ q) (hf : 0 ≤ f ∧ f ≤ 1439) (ht : 0 ≤ t ∧ t ≤ 150000) (hmn : M.2.2.2 ≤ (bl β).length) :
    OK (m_X4_mixNext n q b (t + f) σ) (fun σ' => RC σ' q β f (mixR M.1 t M.2.2.2 (mxTo (prm β) M.1 t M.2.2.2), M.2.1, M.2.2.1, mxTo (prm β) M.1 t M.2.2.2) ∧ nfr q σ σ') := by
  have h60 : (bl β).length ≤ 60 := hP.2.2.1
  have v2 := hV.2.2.1
  have b2 := hB.2.2.1
  have hiu := c_inUse hC.1 hP hN hn hf (m := t + f) (by omega) (s := 0) (by omega)
  rw [show t + f - f = t by omega] at hiu
  change m_X4_inUse n q 0 (t + f) σ = some (mxN (prm β) M.1 t) at hiu
  have hcb : 0 ≤ mxN (prm β) M.1 t ∧ mxN (prm β) M.1 t ≤ (bl β).length := cnt_bd (n := (bl β).length) (mxB (prm β) M.1 t)
  obtain ⟨hRN, hQs, hQo, hm⟩ := hC
  have epm : pm (prm β) = β 2 := rfl
  have epn : pn (prm β) = (bl β).length := rfl
  have r2 := hRN.2.1
  unfold m_X4_mixNext
  rw [hiu, bind_some', hm, r2, b2, xlet_eq, zmax_of (by omega) (by omega) (by omega) (by omega), zmin_of (by omega) (by omega) (by omega) (by omega)]
  have ek : min ((bl β).length : Int) ((M.2.2.2 : Int) + max 0 (β 2 - mxN (prm β) M.1 t)) = ((mxTo (prm β) M.1 t M.2.2.2 : Nat) : Int) := by
    unfold mxTo
    rw [epm, epn]
    omega
  rw [ek]
  have hk := mxTo_bd (P := prm β) (N := M.1) (t := t) (m := M.2.2.2) hmn
  rw [epn] at hk
  generalize mxTo (prm β) M.1 t M.2.2.2 = m' at hk ⊢
  refine loop_for (m' - M.2.2.2) (fun i (τ : xS) => τ q 9 = ((M.2.2.2 + i : Nat) : Int) ∧ RN τ q β f (mixR M.1 t M.2.2.2 (M.2.2.2 + i)) ∧ (∀ k j, (k < q ∨ q + 21 ≤ k ∨ (k = q ∧ j ≠ 9) ∨ k = q + 13 ∨ k = q + 14) → τ k j = σ k j)) ?_ ?_ (by omega) ⟨hm, by simpa [mixR_id] using hRN, fun _ _ _ => rfl⟩
  · rintro i τ hi ⟨g1, g2, g4⟩ rec hrec
    have hcn : M.2.2.2 + i < (bl β).length := by omega
    have hBt : Bk τ b β e := Bk_same hB hV (fun k j a d => g4 k j (by omega))
    obtain ⟨hd1, hd2, hd3⟩ := c_dough hBt hV g2 hcn
    have hmx := mixR_succ (N := M.1) (t := t) (m := M.2.2.2) (j := i)
    generalize hc : M.2.2.2 + i = c at *
    have hT := hP.1 c hcn
    have hd := bl_d hV hcn
    have vd := hV.2.2.2.2.2.2.2.2.2.2.1 _ hd
    have h3 : upD (24 * dF β ((bl β).getD c 0) 1) (β 0) = pT (prm β) c 1 := rfl
    have e9a : ∀ (k1 j1 : Nat) (v1 : Int), k1 ≠ q → (xput τ k1 j1 v1) q 9 = (c : Int) := fun k1 j1 v1 h => by rw [xput_ne (by omega)]; exact g1
    have e9b : ∀ (k1 j1 k2 j2 : Nat) (v1 v2 : Int), k1 ≠ q → k2 ≠ q → (xput (xput τ k1 j1 v1) k2 j2 v2) q 9 = (c : Int) := fun k1 j1 k2 j2 v1 v2 h h' => by rw [xput_ne (by omega), xput_ne (by omega)]; exact g1
    have e9c : ∀ (k1 j1 k2 j2 k3 j3 : Nat) (v1 v2 v3 : Int), k1 ≠ q → k2 ≠ q → k3 ≠ q → (xput (xput (xput τ k1 j1 v1) k2 j2 v2) k3 j3 v3) q 9 = (c : Int) := fun k1 j1 k2 j2 k3 j3 v1 v2 v3 h h' h'' => by rw [xput_ne (by omega), xput_ne (by omega), xput_ne (by omega)]; exact g1
    have e55 : ∀ (j1 j2 : Nat) (v1 v2 : Int), (xput (xput τ (q + 4 + 0) j1 v1) (q + 4 + 1) j2 v2) (b + 2 + (bl β).getD c 0) 1 = dF β ((bl β).getD c 0) 1 := fun j1 j2 v1 v2 => by
      rw [xput_ne (by omega), xput_ne (by omega)]
      exact hd3 1 (by omega)
    have e56 : ∀ (j1 : Nat) (v1 : Int), (xput τ (q + 4 + 0) j1 v1) (b + 2 + (bl β).getD c 0) 0 = pT (prm β) c 0 := fun j1 v1 => by
      rw [xput_ne (by omega)]
      exact hd3 0 (by omega)
    have e57 : ∀ (j1 j2 : Nat) (v1 v2 : Int), m_X1_inThisRoom b (dF β ((bl β).getD c 0) 1) (xput (xput τ (q + 4 + 0) j1 v1) (q + 4 + 1) j2 v2) = some (pT (prm β) c 1) := fun j1 j2 v1 v2 => by
      rw [c_inThisRoom (Bk_same hBt hV (fun k j a d => by rw [xput_ne (by omega), xput_ne (by omega)])) hV vd.2.1.1 vd.2.1.2, h3]
    simp (disch := omega) only [zI_of, if_neg, xck_of, tn_cast, tn_lit, xlet_eq, g1, e9a, e9b, e9c, hd1, e55, e56, e57, bind_some']
    refine hrec _ ⟨?_, ?_, fun k j hk => ?_⟩
    · rw [xput_eq]; omega
    · rw [show M.2.2.2 + (i + 1) = c + 1 by omega] at *
      rw [hmx]
      refine RN_mix g2 hcn ht.1 ?_ ?_ ?_ (fun k j h1 h2 h3 h4 => ?_)
      · rw [xput_ne (by omega), xput_ne (by omega), xput_ne (by omega), xput_eq]
      · rw [xput_ne (by omega), xput_ne (by omega), xput_eq]
      · rw [xput_ne (by omega), xput_eq, xput_eq]
      · rw [xput_ne h4, xput_ne h3, xput_ne h2, xput_ne h1]
    · rw [xput_ne (by omega), xput_ne (by omega), xput_ne (by omega), xput_ne (by omega)]
      exact g4 k j hk
  · rintro τ ⟨g1, g2, g4⟩ rec
    rw [show M.2.2.2 + (m' - M.2.2.2) = m' by omega] at g1 g2
    simp (disch := omega) only [zI_of, g1, if_pos]
    refine OK_some ⟨⟨g2, ?_, ?_, g1⟩, fun k' j hk => g4 k' j (by omega)⟩
    · exact RQ_of hQs (g4 _ _ (by omega)) (fun i _ => g4 _ _ (by omega))
    · exact RQ_of hQo (g4 _ _ (by omega)) (fun i _ => g4 _ _ (by omega))
end CH
