/-! the class's minute: spoiling, baking -/
theorem foldl_take {α γ : Type} (f : γ → α → γ) (x : γ) (l : List α) (d : α) {i : Nat} (h : i < l.length) : (l.take (i + 1)).foldl f x = f ((l.take i).foldl f x) (l.getD i d) := by
  rw [List.take_succ, List.foldl_append, List.getElem?_eq_getElem h, List.getD_eq_getElem?_getD, List.getElem?_eq_getElem h]
  rfl
theorem getD_mem {Q : List Nat} {i : Nat} (h : i < Q.length) : Q.getD i 0 ∈ Q := by
  rw [List.getD_eq_getElem?_getD, List.getElem?_eq_getElem h]
  exact List.getElem_mem h
section CS
variable {σ : xS} {q b n : Nat} {β : Nat → Int} {e f t : Int} {N : Nat → Nat → Int} {M : NS}
theorem c_dough (hB : Bk σ b β e) (hV : V β) (hR : RN σ q β f N) {c : Nat} (hc : c < (bl β).length) : σ (q + 1) c = (((bl β).getD c 0 : Nat) : Int) ∧ (((bl β).getD c 0 : Nat) : Int) < 6 ∧ ∀ w, w < 10 → σ (b + 2 + (bl β).getD c 0) w = dF β ((bl β).getD c 0) w := by
  have hd := bl_d hV hc
  have v4 := hV.2.2.2.2.1
  exact ⟨hR.2.2.1 c hc, by omega, fun w hw => hB.2.2.2.2.2.2.2.2.2.2.1 _ hd w hw⟩
theorem shF_le {v : Int} (hv : -1 ≤ v) (hf : 0 ≤ f) (ht : 0 ≤ t) : shF f v ≤ t + f ↔ v ≤ t := by
  unfold shF
  split <;> omega
theorem shF_bd {v : Int} (hv : -1 ≤ v ∧ v ≤ 200000) (hf : 0 ≤ f ∧ f ≤ 1439) : -1 ≤ shF f v ∧ shF f v ≤ 210000 := by
  unfold shF
  split <;> omega
theorem c_spoil (hB : Bk σ b β e) (hV : V β) (hP : PV (prm β)) (hC : RC σ q β f M) (hN : NB (prm β) M.1) (hn : 4000000 ≤ n) (hq : b + 54 ≤ q) (hf : 0 ≤ f ∧ f ≤ 1439) (ht : 0 ≤ t ∧ t ≤ 150000) (hl : M.2.2.1.length ≤ 60) (hQ : ∀ c, c ∈ M.2.2.1 → c < (bl β).length ∧ M.1 1 c ≠ -1) :
    OK (m_X4_spoilWaiting n q b (t + f) σ) (fun σ' => RC σ' q β f ((spoilR (prm β) t M.1 M.2.2.1).1, M.2.1, (spoilR (prm β) t M.1 M.2.2.1).2, M.2.2.2) ∧ (∀ j, σ' (q + 18) j = σ (q + 18) j) ∧ nfr q σ σ') := by
  have h60 : (bl β).length ≤ 60 := hP.2.2.1
  obtain ⟨hRN, hQs, hQo, hm⟩ := hC
  unfold m_X4_spoilWaiting
  refine loop_for M.2.2.1.length (fun i (s : Int × Int × xS) => ∃ A : NK, A = (M.2.2.1.take i).foldl (spoilS (prm β) t) (M.1, []) ∧ s.1 = (A.2.length : Int) ∧ s.2.1 = (i : Int) ∧ A.2.length ≤ i ∧ RN s.2.2 q β f A.1 ∧ s.2.2 q 13 = (M.2.2.1.length : Int) ∧ (∀ j, j < A.2.length → s.2.2 (q + 14) j = lG A.2 j) ∧ (∀ j, i ≤ j → j < M.2.2.1.length → s.2.2 (q + 14) j = lG M.2.2.1 j) ∧ (∀ k j, k ≠ q + 12 → k ≠ q + 14 → s.2.2 k j = σ k j)) ?_ ?_ (by omega) ⟨(M.1, []), by simp, rfl, rfl, Nat.le_refl _, hRN, hQo.1, fun j hj => absurd hj (Nat.not_lt_zero _), fun j _ hj => hQo.2 j hj, fun _ _ _ _ => rfl⟩
  · rintro i ⟨s1, s2, τ⟩ hi ⟨A, hA, g1, g2, g3, g4, g5, g6, g7, g8⟩ rec hrec
    dsimp only at g1 g2 g4 g5 g6 g7 g8 ⊢
    subst g1 g2
    have hcm := getD_mem hi
    have hx := g7 i (Nat.le_refl _) hi
    have hA1 : (M.2.2.1.take (i + 1)).foldl (spoilS (prm β) t) (M.1, []) = spoilS (prm β) t A (M.2.2.1.getD i 0) := by rw [foldl_take _ _ _ 0 hi, ← hA]
    have hArow : ∀ r, r ≠ 3 → A.1 r = M.1 r := fun r hr => by
      rw [hA, spoil_eq t M.1 _ _ rfl]
      funext x
      simp [hr]
    unfold lG at hx
    generalize M.2.2.1.getD i 0 = c at hcm hx hA1
    obtain ⟨hcn, hc1⟩ := hQ c hcm
    have hBt : Bk τ b β e := Bk_same hB hV (fun k j a d => g8 k j (by omega) (by omega))
    obtain ⟨hd1, hd2, hd3⟩ := c_dough hBt hV g4 hcn
    have hd34 := hd3 4 (by omega)
    have hb1 := hN.1 c hcn 1 (by omega)
    have hT := hP.1 c hcn
    have hlim : dF β ((bl β).getD c 0) 4 = pT (prm β) c 4 := rfl
    have hpe : τ (q + 11) c = pE (prm β) M.1 c + f := by
      rw [(g4.2.2.2.2.1 c hcn).2.2.1, hArow 1 (by decide), if_neg hc1, pE_congr (by rw [hArow 1 (by decide)])]
    have epe : pE (prm β) M.1 c = M.1 1 c + pT (prm β) c 2 + pT (prm β) c 3 := rfl
    have hpA : pE (prm β) A.1 c = pE (prm β) M.1 c := pE_congr (by rw [hArow 1 (by decide)])
    have g5' := g5
    simp (disch := omega) only [zI_of, g5', hx, if_neg, xck_of, tn_cast, xlet_eq, xj_eq, hd1, hd34, hpe, hlim]
    by_cases cl : pT (prm β) c 4 < t - pE (prm β) M.1 c
    · rw [if_neg (by omega)]
      have hs : spoilS (prm β) t A c = (xput A.1 3 c t, A.2) := if_pos (by rw [hpA]; exact cl)
      refine hrec _ ⟨_, hA1.symm, ?_, by dsimp only; omega, ?_, ?_, ?_, fun j hj => ?_, fun j h1 h2 => ?_, fun k j h1 h2 => ?_⟩
      · rw [hs]
      · rw [hs]; dsimp only; omega
      · rw [hs]
        obtain ⟨r0, r2, rd, rb, rc, ro⟩ := g4
        refine ⟨by dsimp only; rw [xput_ne (by omega)]; exact r0, by dsimp only; rw [xput_ne (by omega)]; exact r2, fun x hx => by dsimp only; rw [xput_ne (by omega)]; exact rd x hx, fun x hx r hr => ?_, fun x hx => ?_, fun o ho => ?_⟩
        · dsimp only
          rw [xput_ne (by omega), rb x hx r hr]
          have e : ∀ r', r' ≠ 3 → xput A.1 3 c t r' x = A.1 r' x := fun r' hr' => xput_ne (by omega)
          simp only [bgF, e 0 (by decide), e 1 (by decide), e 2 (by decide)]
        · dsimp only
          have e : ∀ r', r' ≠ 3 → xput A.1 3 c t r' x = A.1 r' x := fun r' hr' => xput_ne (by omega)
          have h := rc x hx
          simp only [e 0 (by decide), e 1 (by decide), e 4 (by decide), rE_congr (P := prm β) (e 0 (by decide)), pE_congr (P := prm β) (e 1 (by decide))]
          rw [xput_ne (by omega), xput_ne (by omega), xput_ne (by omega)]
          refine ⟨h.1, h.2.1, h.2.2.1, ?_⟩
          by_cases cx : x = c
          · rw [cx, xput_eq, xput_eq]
            exact (if_neg (by omega)).symm
          · rw [xput_ne (by omega), xput_ne (by omega)]
            exact h.2.2.2
        · dsimp only
          rw [xput_ne (by omega), xput_ne (by omega), xput_ne (by omega), xput_ne (by omega), xput_ne (by omega), xput_ne (by omega)]
          exact ro o ho
      · dsimp only; rw [xput_ne (by omega)]; exact g5
      · rw [hs] at hj ⊢
        dsimp only at hj ⊢
        rw [xput_ne (by omega)]
        exact g6 j hj
      · dsimp only
        rw [xput_ne (by omega)]
        exact g7 j (by omega) h2
      · dsimp only
        rw [xput_ne (by omega)]
        exact g8 k j h1 h2
    · rw [if_pos (by omega)]
      have hs : spoilS (prm β) t A c = (A.1, A.2 ++ [c]) := if_neg (by rw [hpA]; exact cl)
      refine hrec _ ⟨_, hA1.symm, ?_, by dsimp only; omega, ?_, ?_, ?_, fun j hj => ?_, fun j h1 h2 => ?_, fun k j h1 h2 => ?_⟩
      · rw [hs]; simp
      · rw [hs]; simp; omega
      · rw [hs]
        exact RN_of g4 (by dsimp only; rw [xput_ne (by omega)]) (by dsimp only; rw [xput_ne (by omega)]) (fun k j _ _ _ _ _ => by dsimp only; rw [xput_ne (by omega)])
      · dsimp only; rw [xput_ne (by omega)]; exact g5
      · rw [hs] at hj ⊢
        simp at hj
        dsimp only
        by_cases cj : j = A.2.length
        · rw [cj, xput_eq, lG_app]
        · rw [xput_ne (by omega), lG_l (by omega)]
          exact g6 j (by omega)
      · dsimp only
        rw [xput_ne (by omega)]
        exact g7 j (by omega) h2
      · dsimp only
        rw [xput_ne (by omega)]
        exact g8 k j h1 h2
  · rintro ⟨s1, s2, τ⟩ ⟨A, hA, g1, g2, g3, g4, g5, g6, g7, g8⟩ rec
    dsimp only at g1 g2 g4 g5 g6 g7 g8 ⊢
    subst g1 g2
    rw [List.take_length] at hA
    have hsp : spoilR (prm β) t M.1 M.2.2.1 = A := hA.symm
    simp (disch := omega) only [zI_of, g5, if_pos, xlet_eq]
    rw [hsp]
    refine OK_some ⟨⟨?_, ?_, ?_, ?_⟩, fun j => ?_, fun k j hk => ?_⟩
    · exact RN_of g4 (xput_ne (by omega)) (xput_ne (by omega)) (fun k j _ _ _ _ _ => xput_ne (by omega))
    · exact RQ_of hQs (by rw [xput_ne (by omega)]; exact g8 _ _ (by omega) (by omega)) (fun i _ => by rw [xput_ne (by omega)]; exact g8 _ _ (by omega) (by omega))
    · exact ⟨xput_eq, fun i hi => by rw [xput_ne (by omega)]; exact g6 i hi⟩
    · rw [xput_ne (by omega), g8 _ _ (by omega) (by omega)]; exact hm
    · rw [xput_ne (by omega)]; exact g8 _ _ (by omega) (by omega)
    · rw [xput_ne (by omega)]; exact g8 k j (by omega) (by omega)
def fI (P : NP) (N : Nat → Nat → Int) (h t : Int) : Int := if freeI P N h t < pv P then (freeI P N h t : Int) else -1
theorem c_freeOven (hB : Bk σ b β e) (hV : V β) (hP : PV (prm β)) (hR : RN σ q β f N) (hN : NB (prm β) N) (hn : 4000000 ≤ n) (hf : 0 ≤ f ∧ f ≤ 1439) (ht : 0 ≤ t ∧ t ≤ 150000) {h : Int} (hh : 100 ≤ h ∧ h ≤ 300) (htk : ∀ o : Nat, (o : Int) < β 5 → σ (q + 18) o = used (prm β) N o t) : m_X4_freeOven n q b h (t + f) σ = some (fI (prm β) N h t) := by
  have b5 := hB.2.2.2.2.2.1
  have v5 := hV.2.2.2.2.2.1
  have hle := firstTo_le (isFree (prm β) N h t) (pv (prm β))
  change freeI (prm β) N h t ≤ (β 5).toNat at hle
  unfold m_X4_freeOven
  refine loop_eq (freeI (prm β) N h t) (fun i => (i : Int)) rfl ?_ ?_ (by omega)
  · intro i hi rec
    have hi5 : (i : Int) < β 5 := by omega
    have ho := hB.2.2.2.2.2.2.2.2.2.2.2.1 i hi5
    have hr := hR.2.2.2.2.2 i hi5
    have hO := hP.2.1 i (by show i < (β 5).toNat; omega)
    have hNo := hN.2.2 i (by show i < (β 5).toNat; omega)
    have hu := used_bd hP.2.2.1 N i t
    have hsh := shF_bd hNo.2.1 hf
    have hsl := shF_le (f := f) (t := t) (v := N 6 i) hNo.2.1.1 hf.1 ht.1
    have hfr := firstTo_before _ _ i hi
    have e3 : ovF β i 3 = pO (prm β) i 3 := rfl
    have e0 : ovF β i 0 = pO (prm β) i 0 := rfl
    have ho3 := ho 3 (by omega)
    have ho0 := ho 0 (by omega)
    have htki := htk i hi5
    simp (disch := omega) only [zI_of, b5, if_neg, xck_of, tn_cast, xlet_eq, xj_eq, ho3, ho0, htki, hr.1, hr.2.1]
    by_cases c1 : ovF β i 3 = 0
    · rw [if_pos c1]
      by_cases c2 : t + f < shF f (N 6 i)
      · rw [if_pos c2]; rfl
      · rw [if_neg c2]
        by_cases c3 : N 5 i = h
        · rw [if_pos c3]
          by_cases c4 : ovF β i 0 ≤ used (prm β) N i t
          · rw [if_pos c4]; rfl
          · have : isFree (prm β) N h t i = true := isFree_iff.mpr ⟨by omega, by omega, c3, by omega⟩
            rw [this] at hfr
            cases hfr
        · rw [if_neg c3]; rfl
    · rw [if_neg c1]; rfl
  · intro rec
    unfold fI
    by_cases c : freeI (prm β) N h t < pv (prm β)
    · rw [if_pos c]
      have c5 : freeI (prm β) N h t < (β 5).toNat := c
      have hi5 : ((freeI (prm β) N h t : Nat) : Int) < β 5 := by omega
      have ho := hB.2.2.2.2.2.2.2.2.2.2.2.1 _ hi5
      have hr := hR.2.2.2.2.2 _ hi5
      have hO := hP.2.1 _ c
      have hNo := hN.2.2 _ c
      have hu := used_bd hP.2.2.1 N (freeI (prm β) N h t) t
      have hsh := shF_bd hNo.2.1 hf
      have hsl := shF_le (f := f) (t := t) (v := N 6 (freeI (prm β) N h t)) hNo.2.1.1 hf.1 ht.1
      have hfr := isFree_iff.mp (firstTo_at _ _ c)
      change pO (prm β) (freeI (prm β) N h t) 3 = 0 ∧ N 6 (freeI (prm β) N h t) ≤ t ∧ N 5 (freeI (prm β) N h t) = h ∧ used (prm β) N (freeI (prm β) N h t) t < pO (prm β) (freeI (prm β) N h t) 0 at hfr
      have ho3 := ho 3 (by omega)
      have ho0 := ho 0 (by omega)
      have htki := htk _ hi5
      generalize freeI (prm β) N h t = i at *
      have e3 : ovF β i 3 = pO (prm β) i 3 := rfl
      have e0 : ovF β i 0 = pO (prm β) i 0 := rfl
      simp (disch := omega) only [zI_of, b5, if_neg, if_pos, xck_of, tn_cast, xlet_eq, xj_eq, ho3, ho0, htki, hr.1, hr.2.1]
    · rw [if_neg c]
      have c5 : ¬ freeI (prm β) N h t < (β 5).toNat := c
      simp (disch := omega) only [zI_of, b5, if_pos]
theorem RN_one {σ' : xS} {N' : Nat → Nat → Int} {c : Nat} (h : RN σ q β f N) (h0 : σ' q 0 = σ q 0) (h2 : σ' q 2 = σ q 2) (h1 : ∀ j, σ' (q + 1) j = σ (q + 1) j) (hx : ∀ x, x ≠ c → (∀ r, r ≤ 4 → N' r x = N r x) ∧ (∀ k, q + 2 ≤ k → k ≤ q + 12 → k ≠ q + 3 → σ' k x = σ k x))
    (hc : (∀ r, r < 6 → σ' (q + 4 + r) c = bgF (prm β) f N' r c) ∧ σ' (q + 2) c = N' 4 c ∧ σ' (q + 10) c = (if N' 0 c = -1 then -1 else rE (prm β) N' c + f) ∧ σ' (q + 11) c = (if N' 1 c = -1 then -1 else pE (prm β) N' c + f) ∧ σ' (q + 12) c = shF f (N' 3 c))
    (ho : ∀ o : Nat, (o : Int) < β 5 → σ' (q + 15) o = N' 5 o ∧ σ' (q + 16) o = shF f (N' 6 o) ∧ σ' (q + 17) o = N' 7 o) : RN σ' q β f N' := by
  obtain ⟨r0, r2, rd, rb, rc, ro⟩ := h
  refine ⟨h0.trans r0, h2.trans r2, fun x hx' => (h1 x).trans (rd x hx'), fun x hx' r hr => ?_, fun x hx' => ?_, ho⟩
  · by_cases e : x = c
    · rw [e]; exact hc.1 r hr
    · have h := hx x e
      rw [h.2 _ (by omega) (by omega) (by omega), rb x hx' r hr]
      simp only [bgF, h.1 0 (by omega), h.1 1 (by omega), h.1 2 (by omega)]
  · by_cases e : x = c
    · rw [e]; exact hc.2
    · have h := hx x e
      rw [h.2 _ (by omega) (by omega) (by omega), h.2 _ (by omega) (by omega) (by omega), h.2 _ (by omega) (by omega) (by omega), h.2 _ (by omega) (by omega) (by omega)]
      have := rc x hx'
      simp only [h.1 0 (by omega), h.1 1 (by omega), h.1 3 (by omega), h.1 4 (by omega), rE_congr (P := prm β) (h.1 0 (by omega)), pE_congr (P := prm β) (h.1 1 (by omega))]
      exact this
/-- the minutes of the oven chosen so far -/
def lstF (P : NP) (N : Nat → Nat → Int) (h : Int) : Option Nat → Int
  | none => 0
  | some c => need P N h c
theorem bestO_step {P : NP} {h : Int} {i : Nat} : bestO P N h t (i + 1) = if canCh P N t i = true then match bestO P N h t i with
      | none => some i
      | some c => if need P N h i < need P N h c then some i else some c
    else bestO P N h t i := rfl
theorem c_changeAnOven (hB : Bk σ b β e) (hV : V β) (hP : PV (prm β)) (hR : RN σ q β f N) (hN : NB (prm β) N) (hn : 4000000 ≤ n) (hq : b + 54 ≤ q) (hf : 0 ≤ f ∧ f ≤ 1439) (ht : 0 ≤ t ∧ t ≤ 150000) {h : Int} (hh : 100 ≤ h ∧ h ≤ 300) (htk : ∀ o : Nat, (o : Int) < β 5 → σ (q + 18) o = used (prm β) N o t) :
    OK (m_X4_changeAnOven n q b h (t + f) σ) (fun σ' => RN σ' q β f (changeO (prm β) N h t) ∧ (∀ k j, k ≠ q + 15 → k ≠ q + 16 → k ≠ q + 17 → σ' k j = σ k j)) := by
  have b5 := hB.2.2.2.2.2.1
  have v5 := hV.2.2.2.2.2.1
  have hle := firstTo_le (isChg N h t) (pv (prm β))
  change chgI (prm β) N h t ≤ (β 5).toNat at hle
  unfold m_X4_changeAnOven
  rw [xlet_eq]
  refine loop_det (chgI (prm β) N h t) (fun i => (oI (bestO (prm β) N h t i), lstF (prm β) N h (bestO (prm β) N h t i), (i : Int))) rfl ?_ (by omega) ?_
  · intro i hi rec
    have hi5 : (i : Int) < β 5 := by omega
    have ho := hB.2.2.2.2.2.2.2.2.2.2.2.1 i hi5
    have hr := hR.2.2.2.2.2 i hi5
    have hO := hP.2.1 i (by show i < (β 5).toNat; omega)
    have hNo := hN.2.2 i (by show i < (β 5).toNat; omega)
    have hu := used_bd hP.2.2.1 N i t
    have hsh := shF_bd hNo.2.1 hf
    have hsl := shF_le (f := f) (t := t) (v := N 6 i) hNo.2.1.1 hf.1 ht.1
    have hfr := firstTo_before _ _ i hi
    have ho3 := ho 3 (by omega)
    have ho2 := ho 2 (by omega)
    have htki := htk i hi5
    have hnd := need_bd (P := prm β) (N := N) (h := h) (o := i) hO.2.2.1 hNo.1 hh
    have hdv : m_X12_dividedUp (zabs (N 5 i - h)) (ovF β i 2) σ = some (need (prm β) N h i) := by
      rw [zabs_of (by omega) (by omega)]
      exact c_divided (by omega) (by have := hO.2.2.1.1; exact (show (1 : Int) ≤ ovF β i 2 from this)) (by omega) (by have := hO.2.2.1.2; exact Int.lt_of_le_of_lt (show ovF β i 2 ≤ 50 from this) (by omega))
    dsimp only
    rw [bestO_step]
    have e3 : ovF β i 3 = pO (prm β) i 3 := rfl
    simp (disch := omega) only [zI_of (n := (i : Int)), zI_of (n := t + f), zI_of (n := h), zI_of (n := β 5), zI_of (n := shF f (N 6 i)), zI_of (n := ovF β i 3), zI_of (n := used (prm β) N i t), zI_of (n := N 5 i), b5, if_neg, xck_of, tn_cast, xlet_eq, xj_eq, ho3, ho2, htki, hr.1, hr.2.1, hdv, bind_some']
    by_cases c1 : shF f (N 6 i) ≤ t + f
    · rw [if_pos c1]
      by_cases c2 : ovF β i 3 = 0
      · rw [if_pos c2]
        by_cases c3 : used (prm β) N i t = 0
        · have hcc : canCh (prm β) N t i = true := canCh_iff.mpr ⟨by omega, c2, c3⟩
          rw [if_pos c3, if_pos hcc]
          cases eb : bestO (prm β) N h t i with
          | none =>
            dsimp only
            rw [oI_none, zI_of (by omega) (by omega), if_pos rfl]
            rfl
          | some c =>
            have hc := bestO_some eb
            have hOc := hP.2.1 c (by show c < (β 5).toNat; omega)
            have hNc := hN.2.2 c (by show c < (β 5).toNat; omega)
            have hndc := need_bd (P := prm β) (N := N) (h := h) (o := c) hOc.2.2.1 hNc.1 hh
            dsimp only
            show (if zI (c : Int) = -1 then _ else if zI (need (prm β) N h c) ≤ zI (need (prm β) N h i) then _ else _) = _
            rw [zI_of (by omega) (by omega), if_neg (by omega), zI_of (by omega) (by omega), zI_of (by omega) (by omega)]
            by_cases c4 : need (prm β) N h i < need (prm β) N h c
            · rw [if_neg (by omega), if_pos c4]; rfl
            · rw [if_pos (by omega), if_neg c4]; rfl
        · have hcc : canCh (prm β) N t i = false := bfalse fun z => c3 (canCh_iff.mp z).2.2
          rw [if_neg c3, hcc]
          rfl
      · have hcc : canCh (prm β) N t i = false := bfalse fun z => c2 (canCh_iff.mp z).2.1
        rw [if_neg c2, hcc]
        rfl
    · have hcc : canCh (prm β) N t i = false := bfalse fun z => c1 (by have := (canCh_iff.mp z).1; omega)
      have hne : ¬ N 5 i = h := fun z => by
        have : isChg N h t i = true := isChg_iff.mpr ⟨by omega, z⟩
        rw [this] at hfr
        cases hfr
      rw [if_neg c1, if_neg hne, hcc]
      rfl
  · intro rec
    unfold changeO
    by_cases c : chgI (prm β) N h t < pv (prm β)
    · have c5 : chgI (prm β) N h t < (β 5).toNat := c
      have hi5 : ((chgI (prm β) N h t : Nat) : Int) < β 5 := by omega
      have hr := hR.2.2.2.2.2 _ hi5
      have hNo := hN.2.2 _ c
      have hsh := shF_bd hNo.2.1 hf
      have hsl := shF_le (f := f) (t := t) (v := N 6 (chgI (prm β) N h t)) hNo.2.1.1 hf.1 ht.1
      have hfr := isChg_iff.mp (firstTo_at _ _ c)
      change t < N 6 (chgI (prm β) N h t) ∧ N 5 (chgI (prm β) N h t) = h at hfr
      rw [if_pos c]
      generalize chgI (prm β) N h t = i at *
      dsimp only
      simp (disch := omega) only [zI_of, b5, if_neg, xck_of, tn_cast, xlet_eq, xj_eq, hr.1, hr.2.1]
      rw [if_pos hfr.2]
      exact OK_some ⟨hR, fun _ _ _ _ _ => rfl⟩
    · have c5 : ¬ chgI (prm β) N h t < (β 5).toNat := c
      have e5 : chgI (prm β) N h t = pv (prm β) := by show _ = (β 5).toNat; omega
      rw [if_neg c, e5]
      have epv : ((pv (prm β) : Nat) : Int) = β 5 := by show (((β 5).toNat : Nat) : Int) = β 5; omega
      dsimp only
      rw [epv]
      simp (disch := omega) only [zI_of (n := β 5), b5, if_pos, xj_eq]
      cases eb : bestO (prm β) N h t (pv (prm β)) with
      | none =>
        dsimp only
        rw [oI_none, zI_of (by omega) (by omega), if_pos rfl]
        exact OK_some ⟨hR, fun _ _ _ _ _ => rfl⟩
      | some c' =>
        have hc := bestO_some eb
        have hc5 : c' < (β 5).toNat := hc.1
        have hOc := hP.2.1 c' hc.1
        have hNc := hN.2.2 c' hc.1
        have hndc := need_bd (P := prm β) (N := N) (h := h) (o := c') hOc.2.2.1 hNc.1 hh
        have hr := hR.2.2.2.2.2 c' (by omega)
        dsimp only
        rw [oI_some]
        show OK (if zI (c' : Int) = -1 then _ else _) _
        simp (disch := omega) only [zI_of, if_neg, xck_of, tn_cast, xlet_eq]
        have e7 : (xput (xput σ (q + 15) c' h) (q + 16) c' (t + f + lstF (prm β) N h (some c'))) (q + 17) c' = N 7 c' := by
          rw [xput_ne (by omega), xput_ne (by omega)]
          exact hr.2.2
        rw [e7]
        refine OK_some ⟨?_, fun k j h1 h2 h3 => by rw [xput_ne (by omega), xput_ne (by omega), xput_ne (by omega)]⟩
        obtain ⟨r0, r2, rd, rb, rc, ro⟩ := hR
        refine ⟨by rw [xput_ne (by omega), xput_ne (by omega), xput_ne (by omega)]; exact r0, by rw [xput_ne (by omega), xput_ne (by omega), xput_ne (by omega)]; exact r2, fun x hx => by rw [xput_ne (by omega), xput_ne (by omega), xput_ne (by omega)]; exact rd x hx, fun x hx r hr' => ?_, fun x hx => ?_, fun o ho => ?_⟩
        · rw [xput_ne (by omega), xput_ne (by omega), xput_ne (by omega)]
          exact rb x hx r hr'
        · rw [xput_ne (by omega), xput_ne (by omega), xput_ne (by omega), xput_ne (by omega), xput_ne (by omega), xput_ne (by omega), xput_ne (by omega), xput_ne (by omega), xput_ne (by omega), xput_ne (by omega), xput_ne (by omega), xput_ne (by omega)]
          exact rc x hx
        · have hro := ro o ho
          by_cases c4 : o = c'
          · rw [c4]
            refine ⟨?_, ?_, ?_⟩
            · rw [xput_ne (by omega), xput_ne (by omega), xput_eq]
              simp [setCh, xput_at']
            · rw [xput_ne (by omega), xput_eq]
              have : setCh (prm β) N h t c' 6 c' = t + need (prm β) N h c' := by simp [setCh, xput_at']
              rw [this]
              unfold shF
              rw [if_neg (by omega)]
              show t + f + need (prm β) N h c' = _
              omega
            · rw [xput_eq]
              simp [setCh, xput_at', lstF]
          · refine ⟨?_, ?_, ?_⟩
            · rw [xput_ne (by omega), xput_ne (by omega), xput_ne (by omega), hro.1]
              simp [setCh, xput_at', c4]
            · rw [xput_ne (by omega), xput_ne (by omega), xput_ne (by omega), hro.2.1]
              simp [setCh, xput_at', c4]
            · rw [xput_ne (by omega), xput_ne (by omega), xput_ne (by omega), hro.2.2]
              simp [setCh, xput_at', c4]
end CS
