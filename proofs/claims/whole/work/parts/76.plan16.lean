/-! the reference's best plan and latest start: whole -/
section PLG
variable {σ τ : xS} {k n i : Nat} {β γ : Nat → Int} {e f : Int}
theorem RG_same (h : RG σ β) (hs : ∀ a j, (192 ≤ a ∧ a ≤ 204) ∨ (a = 184 ∧ (j = 19 ∨ j = 35 ∨ j = 36 ∨ j = 37 ∨ j = 38)) → τ a j = σ a j) : RG τ β := by
  obtain ⟨q1, q2, q3, q4, q5, q6, q7⟩ := h
  refine ⟨by rw [hs _ _ (by omega)]; exact q1, fun b hb => ?_, fun o ho => by rw [hs _ _ (by omega)]; exact q3 o ho, by rw [hs _ _ (by omega)]; exact q4, by rw [hs _ _ (by omega)]; exact q5, by rw [hs _ _ (by omega)]; exact q6, by rw [hs _ _ (by omega)]; exact q7⟩
  obtain ⟨p1, p2, p3, p4⟩ := q2 b hb
  exact ⟨by rw [hs _ _ (by omega)]; exact p1, by rw [hs _ _ (by omega)]; exact p2, fun r hr => by rw [hs _ _ (by omega)]; exact p3 r hr, by rw [hs _ _ (by omega)]; exact p4⟩
/-- what plans and latest change -/
def plf (σ τ : xS) : Prop := ∀ a j, ¬ (205 ≤ a ∧ a ≤ 214) → ¬ (a = 184 ∧ (j = 42 ∨ j = 46 ∨ j = 47 ∨ j = 52 ∨ j = 53)) → τ a j = σ a j
/-- the night, the bakery, and whether the first van carries any number -/
def NI (σ : xS) (k : Nat) (β γ : Nat → Int) (e : Int) : Prop := (185 ≤ k ∧ k ≤ 187) ∧ σ k = γ ∧ Ag β γ ∧ V γ ∧ V β ∧ allF β ≤ 60 ∧ RG σ β ∧ ((e = 0 ∧ σ 184 50 = 0) ∨ (e = 1000000 ∧ σ 184 50 = 1))
theorem NI_same (h : NI σ k β γ e) (hs : plf σ τ) : NI τ k β γ e := by
  obtain ⟨h1, h2, h3, h4, h5, h6, h7, h8⟩ := h
  exact ⟨h1, by rw [← h2]; funext j; exact hs _ _ (by omega) (by omega), h3, h4, h5, h6, RG_same h7 (fun a j hj => hs a j (by omega) (by omega)), by rw [hs _ _ (by omega) (by omega)]; exact h8⟩
/-- both finds: the state of a plan -/
theorem r_finds (hI : NI σ k β γ e) (hn : 4000000 ≤ n) {ρ : Type} {F : xS → Option ρ} {Q : ρ → Prop}
    (hF : ∀ τ, plf σ τ → τ 184 46 = (srvF β (Mf (prm β)).1 : Int) → τ 184 47 = (msF β (Mf (prm β)).1 (β 9).toNat : Int) → (srvF β (Mf (prm β)).1 = 0 ∨ v1 (β 8).toNat = (β 8).toNat → RP τ k (PX γ β e 0 1000000)) → τ k 8 = ((β 8).toNat : Int) → OK (F τ) Q) :
    OK ((m_X13_findsShops n k σ).bind fun s1 => (m_X13_findsRoutes n k s1).bind F) Q := by
  have hI' := hI
  obtain ⟨hk, hs, hA, hVg, hV, h60, hG, he⟩ := hI
  have v6 := hV.2.2.2.2.2.2.1
  have v8 := hV.2.2.2.2.2.2.2.2.1
  have g6 : γ 6 = β 6 := hA 6 (by omega) (by omega)
  have g8 : γ 8 = β 8 := hA 8 (by omega) (by omega)
  refine OK_bind (r_findsShops hk hs hA hVg hV h60 hG hn) (fun s1 h => ?_)
  obtain ⟨a1, a2, a3, a4⟩ := h
  have hs1 : s1 k = γ := by rw [← hs]; funext j; exact a4 k j (by omega) (by omega)
  refine OK_bind (r_findsRoutes hk hs1 hVg hn) (fun s2 h => ?_)
  obtain ⟨b1, b2⟩ := h
  obtain ⟨b3, b4⟩ := b1
  rw [g6] at b3 b4
  have e8 : s2 k 8 = ((β 8).toNat : Int) := by rw [b2 _ _ (by omega) (by omega), hs1, g8]; omega
  have e50 : s2 184 50 = σ 184 50 := by rw [b2 _ _ (by omega) (by omega), a4 _ _ (by omega) (by omega)]
  refine hF s2 (fun a j c1 c2 => by rw [b2 _ _ (by omega) (by omega), a4 _ _ (by omega) (by omega)]) (by rw [b2 _ _ (by omega) (by omega)]; exact a2) (by rw [b2 _ _ (by omega) (by omega)]; exact a3) (fun hv => ⟨b3, b4, fun s hs' => ?_, ?_, ?_, e8, ?_, fun v hv' => ?_⟩) e8
  · rw [b2 _ _ (by omega) (by omega), b2 _ _ (by omega) (by omega), b2 _ _ (by omega) (by omega)]
    exact a1 s hs'
  · rw [b2 _ _ (by omega) (by omega)]
    exact a2
  · rcases hv with z | z
    · exact Or.inl z
    · right
      show s2 k 8 = ((v1 (β 8).toNat : Nat) : Int)
      rw [z]
      exact e8
  · rw [e50]
    rcases he with z | z
    · exact Or.inl z.2
    · exact Or.inr z.2
  · have hv2 : v < (β 8).toNat := hv'
    have ev : s2 k (166 + v) = vnF γ v := by rw [b2 _ _ (by omega) (by omega), hs1]
    have vv := hVg.2.2.2.2.2.2.2.2.2.2.2.2.2.1 v (by omega)
    show (s2 184 50 = 1 ∧ v = 0 ∧ 100000 ≤ vcF γ e v) ∨ (vcF γ e v = s2 k (166 + v) ∧ ¬ (s2 184 50 = 1 ∧ v = 0))
    rw [e50, ev]
    unfold vcF
    rw [if_pos (show v < 3 by omega)]
    rcases he with ⟨z1, z2⟩ | ⟨z1, z2⟩
    · right
      rw [z1]
      refine ⟨by split <;> omega, by omega⟩
    · by_cases c : v = 0
      · left
        rw [if_pos c]
        omega
      · right
        rw [if_neg c]
        omega
theorem RP_first (hR : RP σ k (PX γ β e 0 1000000)) (hk : 185 ≤ k ∧ k ≤ 187) (h : ∀ a j, a ≠ 211 → a ≠ 212 → τ a j = σ a j) : RP τ k (PX γ β e 0 1000000) := RP_same hR hk (fun a j hj => h a j (by omega) (by omega))
theorem bsI_ok {fz : Nat → Bool} {la mi : Nat → Int} : ∀ k, bsI fz la mi k ≠ -1 → fz (bsI fz la mi k).toNat = true ∧ (bsI fz la mi k).toNat < k
  | 0, h => absurd rfl h
  | k + 1, h => by
    have ih := bsI_ok (fz := fz) (la := la) (mi := mi) k
    have hs : bsI fz la mi (k + 1) = if fz k = true ∧ (bsI fz la mi k = -1 ∨ la k < la (bsI fz la mi k).toNat ∨ (la k = la (bsI fz la mi k).toNat ∧ mi k < mi (bsI fz la mi k).toNat)) then (k : Int) else bsI fz la mi k := rfl
    by_cases c : fz k = true ∧ (bsI fz la mi k = -1 ∨ la k < la (bsI fz la mi k).toNat ∨ (la k = la (bsI fz la mi k).toNat ∧ mi k < mi (bsI fz la mi k).toNat))
    · rw [if_pos c] at hs
      rw [hs, tn_cast]
      exact ⟨c.1, by omega⟩
    · rw [if_neg c] at hs
      rw [hs] at h ⊢
      have := ih h
      exact ⟨this.1, by omega⟩
theorem r_plans (hI : NI σ k β γ e) (hf : 0 ≤ f ∧ f ≤ 1439) (hn : 4000000 ≤ n) :
    OK (m_X13_plans n k f σ) (fun x => x.1 = (if qB (PX γ β e f 1439) = -1 then 0 else 1) ∧ x.2 184 46 = (srvF β (Mf (prm β)).1 : Int) ∧ x.2 184 47 = (msF β (Mf (prm β)).1 (β 9).toNat : Int) ∧ (qB (PX γ β e f 1439) ≠ -1 → (srvF β (Mf (prm β)).1 = 0 ∨ v1 (β 8).toNat = (β 8).toNat) ∧ RP x.2 k (PX γ β e 0 1000000) ∧ BR x.2 (PX γ β e 0 1000000) f (qB (PX γ β e f 1439)) ∧ qOk (PX γ β e 0 1000000) (qB (PX γ β e f 1439)).toNat) ∧ plf σ x.2) := by
  have hI' := hI
  obtain ⟨hk, hs, hA, hVg, hV, h60, hG, he⟩ := hI
  have v8 := hV.2.2.2.2.2.2.2.2.1
  have he' : e = 0 ∨ e = 1000000 := by omega
  have hP := PX_V (z := 1000000) (f := 0) hA hVg hV h60 he' (by omega) (by omega)
  have hPc := PX_V (z := 1439) hA hVg hV h60 he' hf (by omega)
  have hsl := srv_lt (β := β) (N := (Mf (prm β)).1)
  unfold m_X13_plans
  refine r_finds hI' hn (fun s2 p1 p2 p3 p4 p5 => ?_)
  rw [xlet_eq]
  have f3 : ∀ a j, ¬ (a = 184 ∧ j = 52) → (xput s2 184 52 (-1)) a j = s2 a j := fun a j h => xput_ne h
  have e52 : (xput s2 184 52 (-1)) 184 52 = -1 := xput_eq
  generalize xput s2 184 52 (-1) = s3 at f3 e52 ⊢
  have e46 : s3 184 46 = (srvF β (Mf (prm β)).1 : Int) := by rw [f3 _ _ (by omega)]; exact p2
  refine OK_bind (r_firstAssignment (k := k) e46 hsl hn) (fun s4 h => ?_)
  obtain ⟨q1, q2⟩ := h
  have f4 : plf σ s4 := fun a j c1 c2 => by rw [q2 _ _ (by omega) (by omega), f3 _ _ (by omega)]; exact p1 a j c1 c2
  have e46' : s4 184 46 = (srvF β (Mf (prm β)).1 : Int) := by rw [q2 _ _ (by omega) (by omega)]; exact e46
  have e47' : s4 184 47 = (msF β (Mf (prm β)).1 (β 9).toNat : Int) := by rw [q2 _ _ (by omega) (by omega), f3 _ _ (by omega)]; exact p3
  have e8' : s4 k (8 : Int).toNat = ((β 8).toNat : Int) := by rw [q2 _ _ (by omega) (by omega), f3 _ _ (by omega)]; exact p5
  have go : (srvF β (Mf (prm β)).1 = 0 ∨ v1 (β 8).toNat = (β 8).toNat) → ∀ o, o = loopF (fun rec9 (t8 : Int × xS) => if (zI t8.1) = 0 then xlet (if (zI (t8.2 184 52)) = (-1) then 0 else 1) fun v12 => xbo v12 (some (v12, t8.2)) else xbS (m_X13_drives n k t8.2) fun v16 s15 => xj (fun (q20 : Int) => xj (fun (q23 : xS) => xbS (m_X13_nextAssignment n k q23) fun v25 s24 => rec9 (v25, s24)) fun J21 => if (zI v16) = (-1) then J21 s15 else xj (fun (q31 : Unit) => xlet (xput s15 184 52 q20) fun s32 => xlet (xput s32 184 53 v16) fun s33 => loopF (fun rec35 (t34 : Int × xS) => if 7 ≤ (zI t34.1) then J21 t34.2 else xck (zI t34.1) 7 <| xck (zI t34.1) 7 <| xlet (xput t34.2 214 (zI t34.1).toNat (t34.2 212 (zI t34.1).toNat)) fun s38 => xlet (t34.1 + 1) fun v39 => rec35 (v39, s38)) n (0, s33)) fun J29 => if (zI (s15 184 52)) = (-1) then J29 () else if (zI q20) < (zI (s15 184 52)) then J29 () else if (zI q20) = (zI (s15 184 52)) then if (zI (s15 184 53)) ≤ (zI v16) then J21 s15 else J29 () else J21 s15) fun J18 => if (zI v16) = (-1) then J18 1000000 else (m_X13_lateShops n f s15).bind fun v45 => J18 v45) n (1, s4) → OK o (fun x => x.1 = (if qB (PX γ β e f 1439) = -1 then 0 else 1) ∧ x.2 184 46 = (srvF β (Mf (prm β)).1 : Int) ∧ x.2 184 47 = (msF β (Mf (prm β)).1 (β 9).toNat : Int) ∧ (qB (PX γ β e f 1439) ≠ -1 → (srvF β (Mf (prm β)).1 = 0 ∨ v1 (β 8).toNat = (β 8).toNat) ∧ RP x.2 k (PX γ β e 0 1000000) ∧ BR x.2 (PX γ β e 0 1000000) f (qB (PX γ β e f 1439)) ∧ qOk (PX γ β e 0 1000000) (qB (PX γ β e f 1439)).toNat) ∧ plf σ x.2) := fun hv o ho => by
    subst ho
    have hR4 : RP s4 k (PX γ β e 0 1000000) := RP_same (p4 hv) hk (fun a j h => by rw [q2 _ _ (by omega) (by omega), f3 _ _ (by omega)])
    have hbs := best_same hA hVg hV h60 he' hf hv
    refine OK_mono (r_plansLoop hR4 hk hP q1 (by rw [q2 _ _ (by omega) (by omega)]; exact e52) hf hv hn) (fun x h => ?_)
    obtain ⟨w1, w2, w3⟩ := h
    rw [← hbs] at w1 w2
    refine ⟨w1, by rw [w3 _ _ (by omega) (by omega)]; exact e46', by rw [w3 _ _ (by omega) (by omega)]; exact e47', fun hne => ⟨hv, RP_same hR4 hk (fun a j h => w3 a j (by omega) (by omega)), w2, ?_⟩, fun a j c1 c2 => by rw [w3 _ _ (by omega) (by omega)]; exact f4 a j c1 c2⟩
    rw [hbs] at hne ⊢
    exact qOkB_iff.mp (bsI_ok _ hne).1
  rw [xj_eq]
  simp only [e46']
  rw [zI_of (n := (srvF β (Mf (prm β)).1 : Int)) (by omega) (by omega)]
  by_cases c : srvF β (Mf (prm β)).1 = 0
  · rw [if_pos (by omega)]
    exact go (Or.inl c) _ rfl
  · rw [if_neg (by omega), xck_of (by omega) (by omega)]
    simp only [e8']
    rw [zI_of (n := ((β 8).toNat : Int)) (by omega) (by omega)]
    by_cases d : (β 8).toNat = 0
    · rw [if_pos (by omega)]
      have hno := (noVan hPc c d).1
      rw [hno]
      exact OK_some ⟨rfl, e46', e47', fun h => absurd rfl h, f4⟩
    · rw [if_neg (by omega)]
      refine go (Or.inr ?_) _ rfl
      unfold v1
      rw [if_neg d]
theorem r_latest (hI : NI σ k β γ e) (hn : 4000000 ≤ n) :
    OK (m_X13_latest n k σ) (fun x => x.1 = (if msF β (Mf (prm β)).1 (β 9).toNat = 0 then qT (PX γ β e 0 1439) else -1) ∧ plf σ x.2) := by
  have hI' := hI
  obtain ⟨hk, hs, hA, hVg, hV, h60, hG, he⟩ := hI
  have v8 := hV.2.2.2.2.2.2.2.2.1
  have he' : e = 0 ∨ e = 1000000 := by omega
  have hP := PX_V (z := 1000000) (f := 0) hA hVg hV h60 he' (by omega) (by omega)
  have hPc := PX_V (z := 1439) (f := 0) hA hVg hV h60 he' (by omega) (by omega)
  have hsl := srv_lt (β := β) (N := (Mf (prm β)).1)
  have hml : msF β (Mf (prm β)).1 (β 9).toNat < 128 := b7_lt _
  unfold m_X13_latest
  refine r_finds hI' hn (fun s2 p1 p2 p3 p4 p5 => ?_)
  rw [xj_eq]
  simp only [p3]
  rw [zI_of (n := (msF β (Mf (prm β)).1 (β 9).toNat : Int)) (by omega) (by omega)]
  by_cases cm : msF β (Mf (prm β)).1 (β 9).toNat = 0
  · rw [if_pos (by omega), if_pos cm, xj_eq]
    have go : (srvF β (Mf (prm β)).1 = 0 ∨ v1 (β 8).toNat = (β 8).toNat) → OK ((fun (_ : Unit) => (m_X13_firstAssignment n k s2).bind fun s11 => xlet (-1) fun v12 => loopF (fun rec14 (t13 : Int × Int × xS) => if (zI t13.2.1) = 0 then xlet (if 0 ≤ (zI t13.1) then t13.1 else (-1)) fun v17 => some (v17, t13.2.2) else xbS (m_X13_drives n k t13.2.2) fun v21 s20 => xj (fun (q25 : Int) => xbS (m_X13_nextAssignment n k s20) fun v27 s26 => rec14 (q25, v27, s26)) fun J23 => if (zI v21) = (-1) then J23 t13.1 else (m_X13_slack n s20).bind fun v29 => xlet (m_X13_greater t13.1 v29) fun v30 => J23 v30) n (v12, 1, s11)) ()) (fun x => x.1 = qT (PX γ β e 0 1439) ∧ plf σ x.2) := fun hv => by
      refine OK_bind (r_firstAssignment (k := k) p2 hsl hn) (fun s4 h => ?_)
      obtain ⟨q1, q2⟩ := h
      rw [xlet_eq]
      have hR4 : RP s4 k (PX γ β e 0 1000000) := RP_same (p4 hv) hk (fun a j h => by rw [q2 _ _ (by omega) (by omega)])
      rw [slack_same hA hVg hV h60 he' hv]
      refine OK_mono (r_latestLoop hR4 hk hP q1 hv hn) (fun x h => ⟨h.1, fun a j c1 c2 => ?_⟩)
      rw [h.2 _ _ (by omega) (by omega), q2 _ _ (by omega) (by omega)]
      exact p1 a j c1 c2
    simp only [p2]
    rw [zI_of (n := (srvF β (Mf (prm β)).1 : Int)) (by omega) (by omega)]
    by_cases c : srvF β (Mf (prm β)).1 = 0
    · rw [if_pos (by omega)]
      exact go (Or.inl c)
    · have e8' : s2 k (8 : Int).toNat = ((β 8).toNat : Int) := p5
      rw [if_neg (by omega), xck_of (by omega) (by omega)]
      simp only [e8']
      rw [zI_of (n := ((β 8).toNat : Int)) (by omega) (by omega)]
      by_cases d : (β 8).toNat = 0
      · rw [if_pos (by omega)]
        have hno := (noVan hPc c d).2
        rw [hno]
        exact OK_some ⟨rfl, p1⟩
      · rw [if_neg (by omega)]
        refine go (Or.inr ?_)
        unfold v1
        rw [if_neg d]
  · rw [if_neg (by omega), if_neg cm]
    exact OK_some ⟨rfl, p1⟩
end PLG
