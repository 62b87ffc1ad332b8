/-! the class's minute: baking, shaping, mixing -/
section CB
variable {σ : xS} {q b n : Nat} {β : Nat → Int} {e f t : Int} {N : Nat → Nat → Int} {M : NS}
theorem used_inc {P : NP} {N : Nat → Nat → Int} {c o' : Nat} {t : Int} (hc : c < pn P) (h2 : N 2 c = -1) (hT : 1 ≤ pT P c 5) (ht : 0 ≤ t) (o : Nat) : used P (xput (xput N 2 c t) 4 c (o' : Int)) o t = used P N o t + (if o = o' then 1 else 0) := by
  unfold used
  rw [sumTo_upd (b := c) (f := fun b => if usedB P N o t b = true then (1 : Int) else 0) hc (fun i hi => by simp [usedB, xput_at', hi])]
  have h1 : usedB P N o t c = false := by simp [usedB, h2]
  have h3 : usedB P (xput (xput N 2 c t) 4 c (o' : Int)) o t c = decide (o' = o) := by
    simp [usedB, xput_at']
    by_cases z : o' = o
    · simp [z]; omega
    · have z2 : ¬ ((o' : Int) = (o : Int)) := by omega
      simp [z, z2]
  rw [h1, h3]
  by_cases z : o' = o
  · simp [z]
  · have z2 : ¬ o = o' := fun y => z y.symm
    simp [z, z2]
theorem NB_BI {P : NP} {N : Nat → Nat → Int} {dn : List Nat} {A : NK} (hN : NB P N) (h7 : ∀ o, o < pv P → N 7 o ≤ 90000000) (ht : 0 ≤ t ∧ t ≤ 150000) (I : BI P t N dn A) : NB P A.1 := by
  obtain ⟨n1, n2, n3⟩ := hN
  obtain ⟨I1, I2, I3, I4, I5, I6, I7⟩ := I
  have h24 : ∀ b, (A.1 2 b = t ∧ 0 ≤ A.1 4 b ∧ A.1 4 b < pv P) ∨ (A.1 2 b = N 2 b ∧ A.1 4 b = N 4 b) := fun b => by
    by_cases z : b ∈ dn
    · rcases I3 b z with h | h
      · exact Or.inl ⟨h.1, h.2.1, h.2.2.1⟩
      · exact Or.inr ⟨h.1, h.2.1⟩
    · exact Or.inr (I2 b z)
  refine ⟨fun b hb r hr => ?_, fun b hb => ?_, fun o ho => ?_⟩
  · by_cases e2 : r = 2
    · subst e2
      rcases h24 b with h | h
      · rw [h.1]; omega
      · rw [h.1]; exact n1 b hb 2 (by omega)
    · rw [I1 r e2 (by omega) (by omega) (by omega) (by omega)]
      exact n1 b hb r hr
  · rcases h24 b with h | h
    · omega
    · rw [h.2]; exact n2 b hb
  · have := n3 o ho
    have := h7 o ho
    rcases I6 o ho with h | h
    · rw [h.1, h.2.1, h.2.2]; exact n3 o ho
    · omega
theorem c_bake (hB : Bk σ b β e) (hV : V β) (hP : PV (prm β)) (hC : RC σ q β f M) (hN : NB (prm β) M.1) (h7 : ∀ o, o < pv (prm β) → M.1 7 o ≤ 90000000) (hn : 4000000 ≤ n) (hq : b + 54 ≤ q) (hf : 0 ≤ f ∧ f ≤ 1439) (ht : 0 ≤ t ∧ t ≤ 150000) (hl : M.2.2.1.length ≤ 60) (hQ : ∀ c, c ∈ M.2.2.1 → c < (bl β).length ∧ M.1 2 c = -1) (hQp : M.2.2.1.Pairwise (qR (prm β))) (htk : ∀ o : Nat, (o : Int) < β 5 → σ (q + 18) o = used (prm β) M.1 o t) :
    OK (m_X4_bakeWaiting n q b (t + f) σ) (fun σ' => RC σ' q β f ((bakeR (prm β) t M.1 M.2.2.1).1, M.2.1, (bakeR (prm β) t M.1 M.2.2.1).2, M.2.2.2) ∧ nfr q σ σ') := by
  have h60 : (bl β).length ≤ 60 := hP.2.2.1
  obtain ⟨hRN, hQs, hQo, hm⟩ := hC
  have hBI : ∀ i, BI (prm β) t M.1 (M.2.2.1.take i) ((M.2.2.1.take i).foldl (bakeS (prm β) t) (M.1, [])) := fun i => bakeR_BI hP (fun o ho => (hN.2.2 o ho).1) (hQp.sublist (List.take_sublist _ _)) (fun c hc => hQ c (List.mem_of_mem_take hc))
  unfold m_X4_bakeWaiting
  refine loop_for M.2.2.1.length (fun i (s : Int × Int × xS) => ∃ A : NK, A = (M.2.2.1.take i).foldl (bakeS (prm β) t) (M.1, []) ∧ s.1 = (A.2.length : Int) ∧ s.2.1 = (i : Int) ∧ A.2.length ≤ i ∧ RN s.2.2 q β f A.1 ∧ s.2.2 q 13 = (M.2.2.1.length : Int) ∧ (∀ j, j < A.2.length → s.2.2 (q + 14) j = lG A.2 j) ∧ (∀ j, i ≤ j → j < M.2.2.1.length → s.2.2 (q + 14) j = lG M.2.2.1 j) ∧ (∀ o : Nat, (o : Int) < β 5 → s.2.2 (q + 18) o = used (prm β) A.1 o t) ∧ (∀ k j, (k < q ∨ q + 21 ≤ k ∨ k = q ∨ k = q + 13) → s.2.2 k j = σ k j)) ?_ ?_ (by omega) ⟨(M.1, []), by simp, rfl, rfl, Nat.le_refl _, hRN, hQo.1, fun j hj => absurd hj (Nat.not_lt_zero _), fun j _ hj => hQo.2 j hj, htk, fun _ _ _ => rfl⟩
  · rintro i ⟨s1, s2, τ⟩ hi ⟨A, hA, g1, g2, g3, g4, g5, g6, g7, g9, g8⟩ rec hrec
    dsimp only at g1 g2 g4 g5 g6 g7 g8 g9 ⊢
    subst g1 g2
    have hI := hBI i
    rw [← hA] at hI
    have hNA := NB_BI hN h7 ht hI
    have hcm := getD_mem hi
    have hx := g7 i (Nat.le_refl _) hi
    have hA1 : (M.2.2.1.take (i + 1)).foldl (bakeS (prm β) t) (M.1, []) = bakeS (prm β) t A (M.2.2.1.getD i 0) := by rw [foldl_take _ _ _ 0 hi, ← hA]
    have hnt : M.2.2.1.getD i 0 ∉ M.2.2.1.take i := fun z => by
      have hp : (M.2.2.1.take i ++ M.2.2.1.drop i).Pairwise (qR (prm β)) := by rw [List.take_append_drop]; exact hQp
      have hd : M.2.2.1.getD i 0 ∈ M.2.2.1.drop i := by
        rw [List.getD_eq_getElem?_getD, List.getElem?_eq_getElem hi]
        refine List.mem_iff_getElem.mpr ⟨0, by rw [List.length_drop]; omega, ?_⟩
        simp
      exact ((List.pairwise_append.mp hp).2.2 _ z _ hd).1 rfl
    unfold lG at hx
    generalize M.2.2.1.getD i 0 = c at hcm hx hA1 hnt
    obtain ⟨hcn, hc2⟩ := hQ c hcm
    have hA2c : A.1 2 c = -1 := by rw [(hI.2.1 c hnt).1]; exact hc2
    have hBt : Bk τ b β e := Bk_same hB hV (fun k j a d => g8 k j (by omega))
    obtain ⟨hd1, hd2, hd3⟩ := c_dough hBt hV g4 hcn
    have hd36 := hd3 6 (by omega)
    have hT := hP.1 c hcn
    have h6 : dF β ((bl β).getD c 0) 6 = pT (prm β) c 6 := rfl
    have h5 : dF β ((bl β).getD c 0) 5 = pT (prm β) c 5 := rfl
    have hfo := c_freeOven hBt hV hP g4 hNA hn hf ht (h := pT (prm β) c 6) hT.2.2.2.2.2.2 g9
    have hle := firstTo_le (isFree (prm β) A.1 (pT (prm β) c 6) t) (pv (prm β))
    have hpv : pv (prm β) = (β 5).toNat := rfl
    have hpv4 : pv (prm β) ≤ 4 := hP.2.2.2.1
    have ei : ((((bl β).getD c 0 : Nat) : Int)).toNat = (bl β).getD c 0 := tn_cast _
    simp (disch := omega) only [zI_of, g5, hx, if_neg, xck_of, tn_cast, xlet_eq, xj_eq, hd1, hd36, h6, hfo, bind_some']
    by_cases cf : freeI (prm β) A.1 (pT (prm β) c 6) t < pv (prm β)
    · have efI : fI (prm β) A.1 (pT (prm β) c 6) t = ((freeI (prm β) A.1 (pT (prm β) c 6) t : Nat) : Int) := if_pos cf
      have hs : bakeS (prm β) t A c = (xput (xput A.1 2 c t) 4 c (freeI (prm β) A.1 (pT (prm β) c 6) t : Nat), A.2) := if_pos cf
      rw [efI]
      generalize freeI (prm β) A.1 (pT (prm β) c 6) t = o at cf hs efI hle
      have h55 : ∀ (j1 j2 j3 : Nat) (v1 v2 v3 : Int), (xput (xput (xput τ (q + 2) j1 v1) (q + 18) j2 v2) (q + 4 + 4) j3 v3) (b + 2 + (bl β).getD c 0) 5 = pT (prm β) c 5 := fun j1 j2 j3 v1 v2 v3 => by
        rw [xput_ne (by omega), xput_ne (by omega), xput_ne (by omega)]
        exact hd3 5 (by omega)
      simp (disch := omega) only [zI_of, if_neg, xck_of, tn_cast, xlet_eq, tn_lit]
      rw [h55]
      refine hrec _ ⟨_, hA1.symm, ?_, by dsimp only; omega, ?_, ?_, ?_, fun j hj => ?_, fun j h1 h2 => ?_, fun o2 ho2 => ?_, fun k j hk => ?_⟩
      · rw [hs]
      · rw [hs]; dsimp only; omega
      · rw [hs]
        dsimp only
        refine RN_one (c := c) g4 ?_ ?_ (fun j => ?_) (fun x hx => ⟨fun r hr => ?_, fun k h1 h2 h3 => ?_⟩) ?_ (fun o2 ho2 => ?_)
        · rw [xput_ne (by omega), xput_ne (by omega), xput_ne (by omega), xput_ne (by omega)]
        · rw [xput_ne (by omega), xput_ne (by omega), xput_ne (by omega), xput_ne (by omega)]
        · rw [xput_ne (by omega), xput_ne (by omega), xput_ne (by omega), xput_ne (by omega)]
        · rw [xput_ne (by omega), xput_ne (by omega)]
        · rw [xput_ne (by omega), xput_ne (by omega), xput_ne (by omega), xput_ne (by omega)]
        · obtain ⟨r0, r2, rd, rb, rc, ro⟩ := g4
          have eN : ∀ r, r ≠ 2 → r ≠ 4 → xput (xput A.1 2 c t) 4 c (o : Int) r c = A.1 r c := fun r h2 h4 => by rw [xput_ne (by omega), xput_ne (by omega)]
          have eN2 : xput (xput A.1 2 c t) 4 c (o : Int) 2 c = t := by rw [xput_ne (by omega), xput_eq]
          refine ⟨fun r hr => ?_, ?_, ?_, ?_, ?_⟩
          · by_cases r4 : r = 4
            · subst r4
              rw [xput_ne (by omega), xput_eq]
              show t + f = shF f _
              rw [eN2]
              exact (if_neg (by omega)).symm
            · by_cases r5 : r = 5
              · subst r5
                rw [xput_eq]
                show _ = if _ then _ else _
                rw [eN2, if_neg (by omega)]
                omega
              · rw [xput_ne (by omega), xput_ne (by omega), xput_ne (by omega), xput_ne (by omega), rb c hcn r hr]
                have r3 : r = 0 ∨ r = 1 ∨ r = 2 ∨ r = 3 := by omega
                rcases r3 with rfl | rfl | rfl | rfl <;> simp only [bgF, eN 0 (by omega) (by omega), eN 1 (by omega) (by omega)]
          · rw [xput_ne (by omega), xput_ne (by omega), xput_ne (by omega), xput_eq, xput_eq]
          · rw [xput_ne (by omega), xput_ne (by omega), xput_ne (by omega), xput_ne (by omega), (rc c hcn).2.1]
            simp only [eN 0 (by omega) (by omega), rE_congr (P := prm β) (eN 0 (by omega) (by omega))]
          · rw [xput_ne (by omega), xput_ne (by omega), xput_ne (by omega), xput_ne (by omega), (rc c hcn).2.2.1]
            simp only [eN 1 (by omega) (by omega), pE_congr (P := prm β) (eN 1 (by omega) (by omega))]
          · rw [xput_ne (by omega), xput_ne (by omega), xput_ne (by omega), xput_ne (by omega), (rc c hcn).2.2.2]
            rw [eN 3 (by omega) (by omega)]
        · rw [xput_ne (by omega), xput_ne (by omega), xput_ne (by omega), xput_ne (by omega), xput_ne (by omega), xput_ne (by omega), xput_ne (by omega), xput_ne (by omega), xput_ne (by omega), xput_ne (by omega), xput_ne (by omega), xput_ne (by omega), xput_ne (by omega), xput_ne (by omega), xput_ne (by omega), xput_ne (by omega), xput_ne (by omega), xput_ne (by omega)]
          exact g4.2.2.2.2.2 o2 ho2
      · dsimp only
        rw [xput_ne (by omega), xput_ne (by omega), xput_ne (by omega), xput_ne (by omega)]
        exact g5
      · rw [hs] at hj ⊢
        dsimp only at hj ⊢
        rw [xput_ne (by omega), xput_ne (by omega), xput_ne (by omega), xput_ne (by omega)]
        exact g6 j hj
      · dsimp only
        rw [xput_ne (by omega), xput_ne (by omega), xput_ne (by omega), xput_ne (by omega)]
        exact g7 j (by omega) h2
      · rw [hs]
        dsimp only
        rw [used_inc hcn hA2c hT.2.2.2.2.2.1.1 ht.1, xput_ne (by omega), xput_ne (by omega)]
        by_cases co : o2 = o
        · subst co
          rw [xput_eq, xput_ne (by omega), if_pos rfl, g9 o2 ho2]
        · rw [xput_ne (by omega), xput_ne (by omega), if_neg co, g9 o2 ho2]
          omega
      · dsimp only
        rw [xput_ne (by omega), xput_ne (by omega), xput_ne (by omega), xput_ne (by omega)]
        exact g8 k j hk
    · have efI : fI (prm β) A.1 (pT (prm β) c 6) t = -1 := if_neg cf
      have hs : bakeS (prm β) t A c = (changeO (prm β) A.1 (pT (prm β) c 6) t, A.2 ++ [c]) := if_neg cf
      rw [efI, zI_of (by omega) (by omega), if_pos rfl]
      refine OK_bind (c_changeAnOven hBt hV hP g4 hNA hn hq hf ht (h := pT (prm β) c 6) hT.2.2.2.2.2.2 g9) (fun τ2 hτ2 => ?_)
      obtain ⟨u1, u2⟩ := hτ2
      have hrow : ∀ r, r ≠ 5 → r ≠ 6 → r ≠ 7 → changeO (prm β) A.1 (pT (prm β) c 6) t r = A.1 r := fun r r5 r6 r7 => by
        unfold changeO
        split
        · rfl
        · cases eb : bestO (prm β) A.1 (pT (prm β) c 6) t (pv (prm β)) with
          | none => rfl
          | some c =>
            funext i
            simp [setCh, xput_at', r5, r6, r7]
      refine hrec _ ⟨_, hA1.symm, ?_, by dsimp only; omega, ?_, ?_, ?_, fun j hj => ?_, fun j h1 h2 => ?_, fun o2 ho2 => ?_, fun k j hk => ?_⟩
      · rw [hs]; simp
      · rw [hs]; simp; omega
      · rw [hs]
        exact RN_of u1 (by dsimp only; rw [xput_ne (by omega)]) (by dsimp only; rw [xput_ne (by omega)]) (fun k j _ _ _ _ _ => by dsimp only; rw [xput_ne (by omega)])
      · dsimp only
        rw [xput_ne (by omega), u2 _ _ (by omega) (by omega) (by omega)]
        exact g5
      · rw [hs] at hj ⊢
        simp at hj
        dsimp only
        by_cases cj : j = A.2.length
        · rw [cj, xput_eq, lG_app]
        · rw [xput_ne (by omega), lG_l (by omega), u2 _ _ (by omega) (by omega) (by omega)]
          exact g6 j (by omega)
      · dsimp only
        rw [xput_ne (by omega), u2 _ _ (by omega) (by omega) (by omega)]
        exact g7 j (by omega) h2
      · rw [hs]
        dsimp only
        rw [xput_ne (by omega), u2 _ _ (by omega) (by omega) (by omega), used_congr (hrow 2 (by decide) (by decide) (by decide)) (hrow 4 (by decide) (by decide) (by decide))]
        exact g9 o2 ho2
      · dsimp only
        rw [xput_ne (by omega), u2 _ _ (by omega) (by omega) (by omega)]
        exact g8 k j hk
  · rintro ⟨s1, s2, τ⟩ ⟨A, hA, g1, g2, g3, g4, g5, g6, g7, g9, g8⟩ rec
    dsimp only at g1 g2 g4 g5 g6 g7 g8 ⊢
    subst g1 g2
    rw [List.take_length] at hA
    have hsp : bakeR (prm β) t M.1 M.2.2.1 = A := hA.symm
    simp (disch := omega) only [zI_of, g5, if_pos, xlet_eq]
    rw [hsp]
    refine OK_some ⟨⟨?_, ?_, ?_, ?_⟩, fun k j hk => ?_⟩
    · exact RN_of g4 (xput_ne (by omega)) (xput_ne (by omega)) (fun k j _ _ _ _ _ => xput_ne (by omega))
    · exact RQ_of hQs (by rw [xput_ne (by omega)]; exact g8 _ _ (by omega)) (fun i _ => by rw [xput_ne (by omega)]; exact g8 _ _ (by omega))
    · exact ⟨xput_eq, fun i hi => by rw [xput_ne (by omega)]; exact g6 i hi⟩
    · rw [xput_ne (by omega), g8 _ _ (by omega)]; exact hm
    · rw [xput_ne (by omega)]; exact g8 k j (by omega)
end CB
