/-! the reference's minute: spoiling, ovens -/
section RNS
variable {σ : xS} {k n : Nat} {β : Nat → Int} {u t : Int} {N : Nat → Nat → Int} {M : NS}
theorem eEn_le {P : NP} {b : Nat} (h3 : N 3 b ≤ t) (ht : 0 ≤ t) : eEn P N t b ≤ t := by
  unfold eEn
  split
  · exact h3
  · split <;> omega
theorem r_spoils (hk : 185 ≤ k ∧ k ≤ 187) (hβ : σ k = β) (hV : V β) (hP : PV (prm β)) (hX : RX σ β M t t) (hN : NB (prm β) M.1) (hn : 4000000 ≤ n) (ht : 0 ≤ t ∧ t ≤ 150000) (hl : M.2.2.1.length ≤ 60) (h3 : ∀ b, b < (bl β).length → M.1 3 b ≤ t) (hQ : ∀ c, c ∈ M.2.2.1 → c < (bl β).length ∧ M.1 1 c ≠ -1 ∧ pE (prm β) M.1 c ≤ t ∧ M.1 2 c = -1 ∧ M.1 3 c = -1) (hQp : M.2.2.1.Pairwise (qR (prm β))) :
    OK (m_X13_spoils n k σ) (fun σ' => RX σ' β ((spoilR (prm β) t M.1 M.2.2.1).1, M.2.1, (spoilR (prm β) t M.1 M.2.2.1).2, M.2.2.2) t t ∧ rfr σ σ') := by
  have h60 : (bl β).length ≤ 60 := hP.2.2.1
  have v4 := hV.2.2.2.2.1
  obtain ⟨⟨h19, hRB, hRO, hQ1, hQ2⟩, h34, h35, h36, h37, h38⟩ := hX
  unfold m_X13_spoils
  refine loop_for M.2.2.1.length (fun i (s : Int × Int × xS) => ∃ A : NK, A = (M.2.2.1.take i).foldl (spoilS (prm β) t) (M.1, []) ∧ s.1 = (A.2.length : Int) ∧ s.2.1 = (i : Int) ∧ A.2.length ≤ i ∧ (∀ b, b < (bl β).length → RB s.2.2 β A.1 t b) ∧ s.2.2 184 29 = (M.2.2.1.length : Int) ∧ (∀ j, j < A.2.length → s.2.2 200 j = lG A.2 j) ∧ (∀ j, i ≤ j → j < M.2.2.1.length → s.2.2 200 j = lG M.2.2.1 j) ∧ s.2.2 184 35 = endE (prm β) A.1 t (bl β).length ∧ s.2.2 184 38 = woF (prm β) A.1 ∧ (∀ a j, a ≠ 193 → a ≠ 200 → ¬ (a = 184 ∧ (j = 29 ∨ j = 35 ∨ j = 38)) → s.2.2 a j = σ a j)) ?_ ?_ (by omega) ⟨(M.1, []), by simp, rfl, rfl, Nat.le_refl _, hRB, hQ2.1, fun j hj => absurd hj (Nat.not_lt_zero _), fun j _ hj => hQ2.2 j hj, h35, h38, fun _ _ _ _ _ => rfl⟩
  · rintro i ⟨s1, s2, τ⟩ hi ⟨A, hA, g1, g2, g3, g4, g5, g6, g7, g8, g9, g10⟩ rec hrec
    dsimp only at g1 g2 g4 g5 g6 g7 g8 g9 g10 ⊢
    subst g1 g2
    have hcm := getD_mem hi
    have hx := g7 i (Nat.le_refl _) hi
    have hA1 : (M.2.2.1.take (i + 1)).foldl (spoilS (prm β) t) (M.1, []) = spoilS (prm β) t A (M.2.2.1.getD i 0) := by rw [foldl_take _ _ _ 0 hi, ← hA]
    have hnt : M.2.2.1.getD i 0 ∉ M.2.2.1.take i := fun z => by
      have hp : (M.2.2.1.take i ++ M.2.2.1.drop i).Pairwise (qR (prm β)) := by rw [List.take_append_drop]; exact hQp
      have hd : M.2.2.1.getD i 0 ∈ M.2.2.1.drop i := by
        rw [List.getD_eq_getElem?_getD, List.getElem?_eq_getElem hi]
        refine List.mem_iff_getElem.mpr ⟨0, by rw [List.length_drop]; omega, ?_⟩
        simp
      exact ((List.pairwise_append.mp hp).2.2 _ z _ hd).1 rfl
    have hAr : ∀ r b, A.1 r b = if r = 3 ∧ b ∈ M.2.2.1.take i ∧ lateB (prm β) M.1 t b = true then t else M.1 r b := fun r b => by
      rw [hA, spoil_eq t M.1 _ _ rfl]
    have hArow : ∀ r, r ≠ 3 → A.1 r = M.1 r := fun r hr => by
      funext x
      rw [hAr, if_neg (fun z => hr z.1)]
    unfold lG at hx
    generalize M.2.2.1.getD i 0 = c at hcm hx hA1 hnt
    obtain ⟨hcn, hc1, hcp, hc2, hc3⟩ := hQ c hcm
    have hA3c : A.1 3 c = -1 := by rw [hAr, if_neg (fun z => hnt z.2.1)]; exact hc3
    have hA3 : ∀ b, b < (bl β).length → A.1 3 b ≤ t := fun b hb => by
      rw [hAr]
      split
      · exact Int.le_refl _
      · exact h3 b hb
    have hd := bl_d hV hcn
    have tk : τ k = β := by rw [← hβ]; funext j; exact g10 k j (by omega) (by omega) (by omega)
    have t34 : τ 184 34 = t := by rw [g10 _ _ (by omega) (by omega) (by omega)]; exact h34
    have hB := g4 c hcn
    have hb1 := hN.1 c hcn 1 (by omega)
    have hT := hP.1 c hcn
    have vd := hV.2.2.2.2.2.2.2.2.2.2.1 _ hd
    have hpA : pE (prm β) A.1 c = pE (prm β) M.1 c := pE_congr (by rw [hArow 1 (by decide)])
    have epe : pE (prm β) M.1 c = M.1 1 c + pT (prm β) c 2 + pT (prm β) c 3 := rfl
    have h192 : τ 192 c = (((bl β).getD c 0 : Nat) : Int) := hB.1
    have h197 : τ 197 c = pE (prm β) M.1 c := by
      rw [← hpA]
      exact hB.2.2.2.2.2.2.2.2.2.2.2.2.2.2.1 (by rw [hArow 1 (by decide)]; exact hc1) (by omega)
    have hdl := r_dough4 (σ := τ) (k := k) (i := (bl β).getD c 0) (by omega)
    rw [tk] at hdl
    have elim : dF β ((bl β).getD c 0) 4 = pT (prm β) c 4 := rfl
    rw [elim] at hdl
    simp (disch := omega) only [zI_of (n := (i : Int)), zI_of (n := (M.2.2.1.length : Int)), zI_of (n := (c : Int)), g5, if_neg, hx, xck_of, tn_cast, xlet_eq, xj_eq, h192, hdl, bind_some', t34, h197, zI_of (n := t - pE (prm β) M.1 c), zI_of (n := pT (prm β) c 4)]
    by_cases cl : pT (prm β) c 4 < t - pE (prm β) M.1 c
    · rw [if_neg (by omega)]
      have hs : spoilS (prm β) t A c = (xput A.1 3 c t, A.2) := if_pos (by rw [hpA]; exact cl)
      simp (disch := omega) only [xput_ne, xput_eq, t34, h197]
      refine hrec _ ⟨_, hA1.symm, ?_, by dsimp only; omega, ?_, fun b hb => ?_, ?_, fun j hj => ?_, fun j h1 h2 => ?_, ?_, ?_, fun a j a1 a2 a3 => ?_⟩
      · rw [hs]
      · rw [hs]; dsimp only; omega
      · rw [hs]
        by_cases e : b = c
        · subst e
          obtain ⟨q0, q1, u1, u2, u4, u5, u7, s0, s1, s2, s3, s4, s5, q4, p7, p8⟩ := hB
          have e9 : phF (prm β) (xput A.1 3 b t) t b = 9 := by unfold phF; rw [if_pos (by rw [xput_eq]; omega)]
          have eN : ∀ r, r ≠ 3 → xput A.1 3 b t r b = A.1 r b := fun r hr => xput_ne (by omega)
          dsimp only
          unfold RB
          rw [e9, rE_congr (P := prm β) (eN 0 (by decide)), pE_congr (P := prm β) (eN 1 (by decide)), eN 0 (by decide), eN 1 (by decide), eN 2 (by decide), eN 4 (by decide)]
          simp (disch := omega) only [xput_ne, xput_eq]
          exact ⟨q0, trivial, fun h => by omega, fun h => by omega, fun h => by omega, fun h => by omega, fun h => by omega, s0, s1, s2, s3, s4, s5, q4, p7, p8⟩
        · refine RB_of (g4 b hb) (fun r hr => xput_ne (by omega)) ?_ ?_ ?_ (fun r hr => ?_) ?_ ?_ ?_
          all_goals (dsimp only; rw [xput_ne (by omega), xput_ne (by omega), xput_ne (by omega)])
      · dsimp only; rw [xput_ne (by omega), xput_ne (by omega), xput_ne (by omega)]; exact g5
      · rw [hs] at hj ⊢
        dsimp only at hj ⊢
        rw [xput_ne (by omega), xput_ne (by omega), xput_ne (by omega)]
        exact g6 j hj
      · dsimp only
        rw [xput_ne (by omega), xput_ne (by omega), xput_ne (by omega)]
        exact g7 j (by omega) h2
      · rw [hs]
        dsimp only
        rw [xput_eq]
        have h1 := endE_le (P := prm β) (N := xput A.1 3 c t) (u := t) ht.1 (bl β).length (fun b hb => eEn_le (by
          by_cases e : b = c
          · rw [e, xput_eq]; exact Int.le_refl _
          · rw [xput_ne (by omega)]; exact hA3 b hb) ht.1)
        have h2 := endE_ge (P := prm β) (N := xput A.1 3 c t) (u := t) (bl β).length c hcn
        have e : eEn (prm β) (xput A.1 3 c t) t c = t := by
          unfold eEn
          rw [xput_eq, if_pos (by omega)]
        omega
      · rw [hs]
        dsimp only
        rw [xput_ne (by omega), xput_eq, g9]
        unfold woF
        have hcn' : c < pn (prm β) := hcn
        rw [sumTo_upd (b := c) (g := fun b => if xput A.1 3 c t 2 b ≠ -1 then xput A.1 3 c t 2 b - pE (prm β) (xput A.1 3 c t) b else if xput A.1 3 c t 3 b ≠ -1 then xput A.1 3 c t 3 b - pE (prm β) (xput A.1 3 c t) b else 0) (f := fun b => if A.1 2 b ≠ -1 then A.1 2 b - pE (prm β) A.1 b else if A.1 3 b ≠ -1 then A.1 3 b - pE (prm β) A.1 b else 0) hcn' (fun i hi => by
          have eN : ∀ r, xput A.1 3 c t r i = A.1 r i := fun r => xput_ne (by omega)
          rw [eN, eN, pE_congr (P := prm β) (eN 1)])]
        have e2 : xput A.1 3 c t 2 c = -1 := by rw [xput_ne (by omega), hArow 2 (by decide)]; exact hc2
        have e2' : A.1 2 c = -1 := by rw [hArow 2 (by decide)]; exact hc2
        have e1 : pE (prm β) (xput A.1 3 c t) c = pE (prm β) A.1 c := pE_congr (xput_ne (by omega))
        simp (disch := omega) only [e2, e2', xput_eq, e1, hpA, hA3c, if_neg, if_pos]
        omega
      · dsimp only
        rw [xput_ne (by omega), xput_ne (by omega), xput_ne (by omega)]
        exact g10 a j a1 a2 a3
    · rw [if_pos (by omega)]
      simp (disch := omega) only [zI_of (n := (A.2.length : Int)), xck_of, tn_cast]
      have hs : spoilS (prm β) t A c = (A.1, A.2 ++ [c]) := if_neg (by rw [hpA]; exact cl)
      refine hrec _ ⟨_, hA1.symm, ?_, ?_, ?_, fun b hb => ?_, ?_, fun j hj => ?_, fun j h1 h2 => ?_, ?_, ?_, fun a j a1 a2 a3 => ?_⟩
      · rw [hs]; simp
      · dsimp only; omega
      · rw [hs]; simp; omega
      · rw [hs]
        refine RB_of (g4 b hb) (fun r hr => rfl) ?_ ?_ ?_ (fun r hr => ?_) ?_ ?_ ?_
        all_goals (dsimp only; rw [xput_ne (by omega)])
      · dsimp only; rw [xput_ne (by omega)]; exact g5
      · rw [hs] at hj ⊢
        simp at hj
        dsimp only
        by_cases cj : j = A.2.length
        · rw [cj, xput_eq, lG_app]
        · rw [xput_ne (by omega), lG_l (by omega)]
          exact g6 j (by omega)
      · dsimp only
        rw [xput_ne (by omega)]
        exact g7 j (by omega) h2
      · rw [hs]; dsimp only; rw [xput_ne (by omega)]; exact g8
      · rw [hs]; dsimp only; rw [xput_ne (by omega)]; exact g9
      · dsimp only
        rw [xput_ne (by omega)]
        exact g10 a j a1 a2 a3
  · rintro ⟨s1, s2, τ⟩ ⟨A, hA, g1, g2, g3, g4, g5, g6, g7, g8, g9, g10⟩ rec
    dsimp only at g1 g2 g4 g5 g6 g7 g8 g9 g10 ⊢
    subst g1 g2
    rw [List.take_length] at hA
    have hsp : spoilR (prm β) t M.1 M.2.2.1 = A := hA.symm
    have hArow : ∀ r, r ≠ 3 → A.1 r = M.1 r := fun r hr => by
      rw [hA, spoil_eq t M.1 _ _ rfl]
      funext x
      dsimp only
      rw [if_neg (fun z => hr z.1)]
    simp (disch := omega) only [zI_of, g5, if_pos, xlet_eq]
    rw [hsp]
    refine OK_some ⟨⟨⟨?_, fun b hb => ?_, fun o ho => ?_, ?_, ?_⟩, ?_, ?_, ?_, ?_, ?_⟩, fun a j haj => ?_⟩
    · rw [xput_ne (by omega), g10 _ _ (by omega) (by omega) (by omega)]; exact h19
    · refine RB_of (g4 b hb) (fun r hr => rfl) ?_ ?_ ?_ (fun r hr => ?_) ?_ ?_ ?_
      all_goals rw [xput_ne (by omega)]
    · have h := hRO o ho
      unfold RO at h ⊢
      dsimp only
      rw [xput_ne (by omega), xput_ne (by omega), xput_ne (by omega), xput_ne (by omega), g10 _ _ (by omega) (by omega) (by omega), g10 _ _ (by omega) (by omega) (by omega), g10 _ _ (by omega) (by omega) (by omega), g10 _ _ (by omega) (by omega) (by omega), hArow 5 (by decide), hArow 6 (by decide), hArow 7 (by decide)]
      exact h
    · exact RQ_of hQ1 (by rw [xput_ne (by omega)]; exact g10 _ _ (by omega) (by omega) (by omega)) (fun i _ => by rw [xput_ne (by omega)]; exact g10 _ _ (by omega) (by omega) (by omega))
    · exact ⟨xput_eq, fun i hi => by rw [xput_ne (by omega)]; exact g6 i hi⟩
    · rw [xput_ne (by omega), g10 _ _ (by omega) (by omega) (by omega)]; exact h34
    · rw [xput_ne (by omega)]; exact g8
    · rw [xput_ne (by omega), g10 _ _ (by omega) (by omega) (by omega), h36]
      dsimp only
      unfold wmF
      rw [hArow 0 (by decide)]
    · rw [xput_ne (by omega), g10 _ _ (by omega) (by omega) (by omega), h37]
      dsimp only
      unfold wbF
      rw [hArow 1 (by decide)]
      refine sumTo_congr fun b _ => ?_
      rw [rE_congr (P := prm β) (N := M.1) (N' := A.1) (by rw [hArow 0 (by decide)])]
    · rw [xput_ne (by omega)]; exact g9
    · rw [xput_ne (by omega)]; exact g10 a j (by omega) (by omega) (by omega)
/-- an oven can be used -/
theorem r_isUsable (hk : 185 ≤ k ∧ k ≤ 187) (hβ : σ k = β) (hV : V β) {o : Nat} (ho : (o : Int) < β 5) (hO : RO σ N t o) (h5 : 20 ≤ N 5 o ∧ N 5 o ≤ 300) : m_X13_isUsable k o σ = some (if pO (prm β) o 3 = 0 ∧ N 6 o ≤ t then 1 else 0) := by
  have v5 := hV.2.2.2.2.2.1
  have vo := hV.2.2.2.2.2.2.2.2.2.2.2.1 o ho
  have h3 := r_oven3 (σ := σ) (k := k) (i := o) (by omega)
  rw [hβ] at h3
  have e3 : ovF β o 3 = pO (prm β) o 3 := rfl
  obtain ⟨o1, o2, -⟩ := hO
  unfold m_X13_isUsable
  rw [h3, bind_some']
  simp (disch := omega) only [xj_eq, zI_of (n := (o : Int)), zI_of (n := ovF β o 3), tn_cast, xck_of]
  by_cases c1 : ovF β o 3 = 0
  · rw [if_pos c1]
    by_cases c2 : N 6 o ≤ t
    · rw [(o1 c2).1, zI_of (by omega) (by omega), if_pos rfl, if_pos ⟨by omega, c2⟩]; rfl
    · rw [(o2 (by omega)).1, zI_of (by omega) (by omega), if_neg (by omega), if_neg (fun z => c2 z.2)]; rfl
  · rw [if_neg c1, if_neg (fun z => c1 (by omega))]; rfl
theorem r_ovenFor (hk : 185 ≤ k ∧ k ≤ 187) (hβ : σ k = β) (hV : V β) (hP : PV (prm β)) (h19 : σ 184 19 = ((bl β).length : Int)) (hR : ∀ b, b < (bl β).length → RB σ β N t b) (hRO : ∀ o : Nat, (o : Int) < β 5 → RO σ N t o) (hb : ∀ b, b < (bl β).length → bOK (prm β) N (t + 1) b) (hN : NB (prm β) N) (hn : 4000000 ≤ n) {h : Int} (hh : 100 ≤ h ∧ h ≤ 300) : m_X13_ovenFor n k h σ = some (fI (prm β) N h t) := by
  have v5 := hV.2.2.2.2.2.1
  have hle := firstTo_le (isFree (prm β) N h t) (pv (prm β))
  change freeI (prm β) N h t ≤ (β 5).toNat at hle
  have one : ∀ i : Nat, (i : Int) < β 5 → ∀ (rec : Int → Option Int), (m_X13_isUsable k i σ).bind (fun v5 => xj (fun (_ : Unit) => xlet ((i : Int) + 1) fun v9 => rec v9) fun J6 => if (zI v5) = 0 then J6 () else xck (zI (i : Int)) 4 <| if (zI (σ 201 (zI (i : Int)).toNat)) = (zI h) then (m_X13_onShelves n i σ).bind fun v12 => (m_X13_oven k i 0 σ).bind fun v13 => if (zI v13) ≤ (zI v12) then J6 () else some (i : Int) else J6 ()) = if isFree (prm β) N h t i = true then some (i : Int) else rec ((i : Int) + 1) := by
    intro i hi5 rec
    have hNo := hN.2.2 i (by show i < (β 5).toNat; omega)
    have hO := hRO i hi5
    have hOP := hP.2.1 i (by show i < (β 5).toNat; omega)
    have hu := used_bd hP.2.2.1 N i t
    have h0 := r_oven0 (σ := σ) (k := k) (i := i) (by omega)
    rw [hβ] at h0
    have e0 : ovF β i 0 = pO (prm β) i 0 := rfl
    rw [e0] at h0
    rw [r_isUsable hk hβ hV hi5 hO hNo.1, bind_some', r_onShelves hP h19 hR hb hN hn (by omega), h0]
    simp (disch := omega) only [xj_eq, xlet_eq, bind_some', zI_of (n := (i : Int)), tn_cast, xck_of, zI_of (n := h), zI_of (n := used (prm β) N i t), zI_of (n := pO (prm β) i 0)]
    by_cases c : pO (prm β) i 3 = 0 ∧ N 6 i ≤ t
    · rw [if_pos c, zI_of (by omega) (by omega), if_neg (by omega), (hO.1 c.2).2, zI_of (by omega) (by omega)]
      by_cases c3 : N 5 i = h
      · rw [if_pos c3]
        by_cases c4 : pO (prm β) i 0 ≤ used (prm β) N i t
        · have : isFree (prm β) N h t i = false := bfalse fun z => by have := (isFree_iff.mp z).2.2.2; omega
          rw [if_pos c4, this]; rfl
        · have : isFree (prm β) N h t i = true := isFree_iff.mpr ⟨c.1, c.2, c3, by omega⟩
          rw [if_neg c4, this]; rfl
      · have : isFree (prm β) N h t i = false := bfalse fun z => c3 (isFree_iff.mp z).2.2.1
        rw [if_neg c3, this]; rfl
    · have : isFree (prm β) N h t i = false := bfalse fun z => c ⟨(isFree_iff.mp z).1, (isFree_iff.mp z).2.1⟩
      rw [if_neg c, zI_of (by omega) (by omega), if_pos rfl, this]; rfl
  unfold m_X13_ovenFor
  refine loop_eq (freeI (prm β) N h t) (fun i => (i : Int)) rfl ?_ ?_ (by omega)
  · intro i hi rec
    have hi5 : (i : Int) < β 5 := by omega
    simp (disch := omega) only [tn_lit, hβ, xck_of, zI_of (n := (i : Int)), zI_of (n := β 5), if_neg]
    have h1 := one i hi5 rec
    simp (disch := omega) only [zI_of (n := (i : Int)), xck_of, tn_cast] at h1 ⊢
    rw [h1, firstTo_before _ _ i hi]
    rfl
  · intro rec
    unfold fI
    by_cases c : freeI (prm β) N h t < pv (prm β)
    · rw [if_pos c]
      have c5 : freeI (prm β) N h t < (β 5).toNat := c
      have hat : isFree (prm β) N h t (freeI (prm β) N h t) = true := firstTo_at _ _ c
      generalize freeI (prm β) N h t = i at *
      have hi5 : (i : Int) < β 5 := by omega
      simp (disch := omega) only [tn_lit, hβ, xck_of, zI_of (n := (i : Int)), zI_of (n := β 5), if_neg]
      have h1 := one i hi5 rec
      simp (disch := omega) only [zI_of (n := (i : Int)), xck_of, tn_cast] at h1 ⊢
      rw [h1, hat]
      rfl
    · rw [if_neg c]
      have c5 : ¬ freeI (prm β) N h t < (β 5).toNat := c
      simp (disch := omega) only [tn_lit, hβ, xck_of, zI_of (n := ((freeI (prm β) N h t : Nat) : Int)), zI_of (n := β 5), if_pos]
theorem r_isOneChanging (hk : 185 ≤ k ∧ k ≤ 187) (hβ : σ k = β) (hV : V β) (hRO : ∀ o : Nat, (o : Int) < β 5 → RO σ N t o) (hN : NB (prm β) N) (hn : 4000000 ≤ n) {h : Int} (hh : 100 ≤ h ∧ h ≤ 300) : m_X13_isOneChanging n k h σ = some (if chgI (prm β) N h t < pv (prm β) then 1 else 0) := by
  have v5 := hV.2.2.2.2.2.1
  have hle := firstTo_le (isChg N h t) (pv (prm β))
  change chgI (prm β) N h t ≤ (β 5).toNat at hle
  have one : ∀ i : Nat, (i : Int) < β 5 → (zI (σ 202 i) = h ↔ isChg N h t i = true) := by
    intro i hi5
    have hNo := hN.2.2 i (by show i < (β 5).toNat; omega)
    obtain ⟨o1, o2, -⟩ := hRO i hi5
    rw [isChg_iff]
    by_cases c : N 6 i ≤ t
    · rw [(o1 c).1, zI_of (by omega) (by omega)]
      omega
    · rw [(o2 (by omega)).1, zI_of (by omega) (by omega)]
      omega
  unfold m_X13_isOneChanging
  refine loop_eq (chgI (prm β) N h t) (fun i => (i : Int)) rfl ?_ ?_ (by omega)
  · intro i hi rec
    have hi5 : (i : Int) < β 5 := by omega
    have hb := firstTo_before _ _ i hi
    simp (disch := omega) only [tn_lit, hβ, xck_of, zI_of (n := (i : Int)), zI_of (n := β 5), zI_of (n := h), if_neg, tn_cast, xlet_eq]
    rw [if_neg (fun z => by rw [(one i hi5).mp z] at hb; cases hb)]
    rfl
  · intro rec
    by_cases c : chgI (prm β) N h t < pv (prm β)
    · rw [if_pos c]
      have c5 : chgI (prm β) N h t < (β 5).toNat := c
      have hat : isChg N h t (chgI (prm β) N h t) = true := firstTo_at _ _ c
      generalize chgI (prm β) N h t = i at *
      have hi5 : (i : Int) < β 5 := by omega
      simp (disch := omega) only [tn_lit, hβ, xck_of, zI_of (n := (i : Int)), zI_of (n := β 5), zI_of (n := h), if_neg, tn_cast, xlet_eq]
      rw [if_pos ((one i hi5).mpr hat)]
    · rw [if_neg c]
      have c5 : ¬ chgI (prm β) N h t < (β 5).toNat := c
      simp (disch := omega) only [tn_lit, hβ, xck_of, zI_of (n := ((chgI (prm β) N h t : Nat) : Int)), zI_of (n := β 5), if_pos]
theorem r_changeMinutes (hk : 185 ≤ k ∧ k ≤ 187) (hβ : σ k = β) (hV : V β) (hP : PV (prm β)) (hN : NB (prm β) N) {o : Nat} (ho : (o : Int) < β 5) (hO : RO σ N t o) (h6 : N 6 o ≤ t) {h : Int} (hh : 100 ≤ h ∧ h ≤ 300) : m_X13_changeMinutes k o h σ = some (need (prm β) N h o) := by
  have v5 := hV.2.2.2.2.2.1
  have hNo := hN.2.2 o (by show o < (β 5).toNat; omega)
  have hOP := hP.2.1 o (by show o < (β 5).toNat; omega)
  have h2 := r_oven2 (σ := σ) (k := k) (i := o) (by omega)
  rw [hβ] at h2
  have e2 : ovF β o 2 = pO (prm β) o 2 := rfl
  rw [e2] at h2
  unfold m_X13_changeMinutes
  simp (disch := omega) only [xj_eq, zI_of (n := (o : Int)), tn_cast, xck_of, h2, bind_some', (hO.1 h6).2, zI_of (n := h), zI_of (n := N 5 o)]
  by_cases c : h ≤ N 5 o
  · rw [if_pos c, r_up (by omega) (by omega) (by omega) (by omega), bind_some']
    unfold need
    rw [show ((N 5 o - h).natAbs : Int) = N 5 o - h by omega]
  · rw [if_neg c, r_up (by omega) (by omega) (by omega) (by omega), bind_some']
    unfold need
    rw [show ((N 5 o - h).natAbs : Int) = h - N 5 o by omega]
end RNS
