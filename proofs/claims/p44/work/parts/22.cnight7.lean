/-! the class's night: run -/
section CR
variable {σ : xS} {q b n : Nat} {β : Nat → Int} {e f t : Int} {N : Nat → Nat → Int} {M : NS}
theorem NB_of {P : NP} {M : NS} {t : Int} (hP : PV P) (I : Minv P t M) (ht : 0 ≤ t ∧ t ≤ 199000) : NB P M.1 ∧ ∀ o, o < pv P → M.1 7 o ≤ 300 * t := by
  obtain ⟨i0, i1, i2, i3, i4, i5, i6, i7, i8, i8', i10, i9, i11, i12, i13⟩ := I
  refine ⟨⟨fun b hb r hr => ?_, fun b hb => ?_, fun o ho => ?_⟩, fun o ho => (i9 o ho).2.2.2⟩
  · have hT := hP.1 b hb
    have eR : rE P M.1 b = M.1 0 b + pT P b 0 + pT P b 1 := rfl
    have eP : pE P M.1 b = M.1 1 b + pT P b 2 + pT P b 3 := rfl
    have a0 := i1 b
    have h0 : -1 ≤ M.1 0 b ∧ M.1 0 b ≤ 200000 := by
      rcases Nat.lt_or_ge b M.2.2.2 with z | z
      · have := a0.1 z; omega
      · have := a0.2 z; omega
    have h1 : -1 ≤ M.1 1 b ∧ M.1 1 b ≤ 200000 := by
      rcases i2 b with z | z
      · omega
      · have := a0.1 z.1; omega
    have r4 : r = 0 ∨ r = 1 ∨ r = 2 ∨ r = 3 := by omega
    rcases r4 with rfl | rfl | rfl | rfl
    · exact h0
    · exact h1
    · rcases i3 b with z | z <;> omega
    · rcases i4 b with z | z <;> omega
  · have h := i10 b
    by_cases z : M.1 2 b = -1
    · have := h.1 z; omega
    · have := h.2 z; omega
  · have := i9 o ho
    omega
/-- a minute of the class -/
theorem c_minute (hB : Bk σ b β e) (hV : V β) (hP : PV (prm β)) (hC : RC σ q β f M) (I : Minv (prm β) t M) (hn : 4000000 ≤ n) (hq : b + 54 ≤ q) (hf : 0 ≤ f ∧ f ≤ 1439) (ht : 0 ≤ t ∧ t ≤ 150000) {P : xS → Prop} {k : xS → Option xS}
    (hk : ∀ τ, RC τ q β f (mstep (prm β) t M) → nfr q σ τ → OK (k τ) P) :
    OK ((m_X4_noteWhatEnded n q b (t + f) σ).bind fun s19 => (m_X4_spoilWaiting n q b (t + f) s19).bind fun s20 => (m_X4_bakeWaiting n q b (t + f) s20).bind fun s21 => (m_X4_shapeWaiting n q b (t + f) s21).bind fun s22 => (m_X4_mixNext n q b (t + f) s22).bind k) P := by
  have hNB := NB_of hP I (by omega)
  have hqs := queS hP I ht.1
  have hqo := queO hP I ht.1
  have hBI := sBI hP I ht.1
  have h60 : (bl β).length ≤ 60 := hP.2.2.1
  have epn : pn (prm β) = (bl β).length := rfl
  have hlt : ∀ c, M.1 1 c ≠ -1 → c < (bl β).length := fun c hc => by
    rcases I.2.2.1 c with z | z
    · exact absurd z hc
    · have := I.1; omega
  have hsm : ∀ c, c ∈ sQs (prm β) t M → c < (bl β).length := fun c hc => by
    have := (hqs.1 c).mp hc
    have := I.1
    omega
  have hom : ∀ c, c ∈ sQo (prm β) t M → c < (bl β).length ∧ M.1 1 c ≠ -1 := fun c hc => by
    have := (hqo.1 c).mp hc
    exact ⟨hlt c this.1, this.1⟩
  have hl1 : (sQs (prm β) t M).length ≤ 60 := Nat.le_trans (nodup_le _ (qR_ne hqs.2) hsm) h60
  have hl2 : (sQo (prm β) t M).length ≤ 60 := Nat.le_trans (nodup_le _ (qR_ne hqo.2) (fun c hc => (hom c hc).1)) h60
  have hl3 : (sQk (prm β) t M).length ≤ 60 := Nat.le_trans (List.filter_sublist (l := sQo (prm β) t M) (p := fun b => !lateB (prm β) M.1 t b)).length_le hl2
  refine OK_bind (c_note hB hV hP hC hNB.1 hn hq hf ht hl1 hl2) (fun τ1 h1 => ?_)
  obtain ⟨c1, tk1, f1⟩ := h1
  have hB1 : Bk τ1 b β e := Bk_same hB hV (fun k j a d => f1 k j (by omega))
  refine OK_bind (c_spoil hB1 hV hP c1 hNB.1 hn hq hf ht hl2 hom) (fun τ2 h2 => ?_)
  obtain ⟨c2, tk2, f2⟩ := h2
  have esp : spoilR (prm β) t M.1 (sQo (prm β) t M) = (sN1 (prm β) t M, sQk (prm β) t M) := spoilR_eq t M.1 _
  dsimp only at c2
  rw [esp] at c2
  have hB2 : Bk τ2 b β e := Bk_same hB1 hV (fun k j a d => f2 k j (by omega))
  have eN : ∀ r x, r ≠ 3 → sN1 (prm β) t M r x = M.1 r x := fun r x hr => by simp [sN1, hr]
  have hNB1 : NB (prm β) (sN1 (prm β) t M) := by
    obtain ⟨n1, n2, n3⟩ := hNB.1
    refine ⟨fun x hx r hr => ?_, fun x hx => ?_, fun o ho => ?_⟩
    · by_cases r3 : r = 3
      · subst r3
        have := n1 x hx 3 (by omega)
        simp only [sN1]
        split <;> omega
      · rw [eN r x r3]; exact n1 x hx r hr
    · rw [eN 4 x (by decide)]; exact n2 x hx
    · rw [eN 5 o (by decide), eN 6 o (by decide), eN 7 o (by decide)]; exact n3 o ho
  have hkm : ∀ c, c ∈ sQk (prm β) t M → c < (bl β).length ∧ sN1 (prm β) t M 2 c = -1 := fun c hc => by
    have h := (hqo.1 c).mp (sQk_mem.mp hc).1
    exact ⟨hlt c h.1, by rw [eN 2 c (by decide)]; exact h.2.2.1⟩
  have h7 : ∀ o, o < pv (prm β) → sN1 (prm β) t M 7 o ≤ 90000000 := fun o ho => by
    rw [eN 7 o (by decide)]
    have := hNB.2 o ho
    omega
  have htk : ∀ o : Nat, (o : Int) < β 5 → τ2 (q + 18) o = used (prm β) (sN1 (prm β) t M) o t := fun o ho => by
    rw [tk2 o, tk1 o ho]
    exact (used_congr (by funext x; exact eN 2 x (by decide)) (by funext x; exact eN 4 x (by decide))).symm
  refine OK_bind (c_bake hB2 hV hP c2 hNB1 h7 hn hq hf ht hl3 hkm (hqo.2.sublist List.filter_sublist) htk) (fun τ3 h3 => ?_)
  obtain ⟨c3, f3⟩ := h3
  dsimp only at c3
  have hB3 : Bk τ3 b β e := Bk_same hB2 hV (fun k j a d => f3 k j (by omega))
  have hNBA := NB_BI hNB1 h7 ht hBI
  have hsA : ∀ c, c ∈ sQs (prm β) t M → c < (bl β).length ∧ (sA (prm β) t M).1 2 c = -1 := fun c hc => by
    have h := (hqs.1 c).mp hc
    have hnk : c ∉ sQk (prm β) t M := fun z => ((hqo.1 c).mp (sQk_mem.mp z).1).1 h.2.2
    refine ⟨hsm c hc, ?_⟩
    rw [(hBI.2.1 c hnk).1, eN 2 c (by decide)]
    rcases I.2.2.2.1 c with z | z
    · exact z
    · exact absurd h.2.2 z.1
  refine OK_bind (c_shape (M := ((sA (prm β) t M).1, sQs (prm β) t M, (sA (prm β) t M).2, M.2.2.2)) hB3 hV hP c3 hNBA hn hq hf ht hl1 hsA) (fun τ4 h4 => ?_)
  obtain ⟨c4, f4⟩ := h4
  have hB4 : Bk τ4 b β e := Bk_same hB3 hV (fun k j a d => f4 k j (by omega))
  have e3 : shapeR t (sA (prm β) t M).1 ((sQs (prm β) t M).take (sK (prm β) t M)) = sN3 (prm β) t M := shapeR_eq t _ _
  change RC τ4 q β f (shapeR t (sA (prm β) t M).1 ((sQs (prm β) t M).take (sK (prm β) t M)), (sQs (prm β) t M).drop (sK (prm β) t M), (sA (prm β) t M).2, M.2.2.2) at c4
  rw [e3] at c4
  have hNB3 : NB (prm β) (sN3 (prm β) t M) := by
    obtain ⟨n1, n2, n3⟩ := hNBA
    have eN3 : ∀ r x, r ≠ 1 → sN3 (prm β) t M r x = (sA (prm β) t M).1 r x := fun r x hr => by simp [sN3, hr]
    refine ⟨fun x hx r hr => ?_, fun x hx => ?_, fun o ho => ?_⟩
    · by_cases r1 : r = 1
      · subst r1
        have := n1 x hx 1 (by omega)
        simp only [sN3]
        split <;> omega
      · rw [eN3 r x r1]; exact n1 x hx r hr
    · rw [eN3 4 x (by decide)]; exact n2 x hx
    · rw [eN3 5 o (by decide), eN3 6 o (by decide), eN3 7 o (by decide)]; exact n3 o ho
  refine OK_bind (c_mix hB4 hV hP c4 hNB3 hn hq hf ht I.1) (fun τ5 h5 => ?_)
  obtain ⟨c5, f5⟩ := h5
  refine hk τ5 ?_ (fun k j hk => by rw [f5 k j hk, f4 k j hk, f3 k j hk, f2 k j hk, f1 k j hk])
  rw [mstep_eq]
  exact c5
/-- the class's events are the night's -/
theorem noEv_of (hP : PV (prm β)) (I : Minv (prm β) t M) {u : Int} (ht : 0 ≤ t) (hu : t ≤ u) (h : ∀ x, EvC β f M x → x ≠ u + f) : noEv (prm β) u M := by
  obtain ⟨i0, i1, i2, i3, i4, i5, i6, i7, i8, i8', i10, i9, i11, i12, i13⟩ := I
  have epn : pn (prm β) = (bl β).length := rfl
  have hlt : ∀ c, M.1 1 c ≠ -1 → c < M.2.2.2 := fun c hc => by
    rcases i2 c with z | z
    · exact absurd z hc
    · exact z.1
  refine ⟨fun c hc => ?_, fun c hc => ?_, fun c hc => ?_, fun c hc => ?_, fun o ho => ?_⟩
  · have h0 := (i1 c).1 hc
    have hne : M.1 0 c ≠ -1 := by omega
    refine ⟨fun z => ?_, fun z => ?_⟩
    · exact h _ (Or.inl ⟨c, by omega, Or.inl rfl⟩) (by show (if _ then _ else _ : Int) = _; rw [if_neg hne]; omega)
    · exact h _ (Or.inl ⟨c, by omega, Or.inr (Or.inl rfl)⟩) (by rw [if_neg hne]; omega)
  · have := hlt c hc
    refine ⟨fun z => ?_, fun z => ?_⟩
    · exact h _ (Or.inl ⟨c, by omega, Or.inr (Or.inr (Or.inl rfl))⟩) (by show (if _ then _ else _ : Int) = _; rw [if_neg hc]; omega)
    · exact h _ (Or.inl ⟨c, by omega, Or.inr (Or.inr (Or.inr (Or.inl rfl)))⟩) (by rw [if_neg hc]; omega)
  · have hc1 : M.1 1 c ≠ -1 := by
      rcases i3 c with z | z
      · exact absurd z hc
      · exact z.1
    have := hlt c hc1
    exact fun z => h _ (Or.inl ⟨c, by omega, Or.inr (Or.inr (Or.inr (Or.inr rfl)))⟩) (by show (if _ then _ else _ : Int) = _; rw [if_neg hc]; omega)
  · exact fun z => h _ (Or.inr (Or.inl ⟨c, hc, rfl⟩)) (by omega)
  · have h9 := i9 o ho
    have ho5 : o < (β 5).toNat := ho
    intro z
    refine h _ (Or.inr (Or.inr ⟨o, by omega, rfl⟩)) ?_
    unfold shF
    split <;> omega
theorem ifle {c : Prop} [Decidable c] {x y : Int} (h1 : -1 ≤ y) (h : ¬ c → x ≤ y) : (if c then -1 else x) ≤ y := by
  by_cases z : c
  · rw [if_pos z]; exact h1
  · rw [if_neg z]; exact h z
theorem Ev_bd (hP : PV (prm β)) (I : Minv (prm β) t M) (hf : 0 ≤ f) (ht : 0 ≤ t) {x : Int} (h : EvC β f M x) : x ≤ t + 1100 + f := by
  obtain ⟨i0, i1, i2, i3, i4, i5, i6, i7, i8, i8', i10, i9, i11, i12, i13⟩ := I
  have epn : pn (prm β) = (bl β).length := rfl
  rcases h with ⟨c, hc, h⟩ | ⟨c, hc, h⟩ | ⟨o, ho, h⟩
  · have hT := hP.1 c hc
    have a0 := i1 c
    have a2 := i2 c
    have a3 := i3 c
    have eR : rE (prm β) M.1 c = M.1 0 c + pT (prm β) c 0 + pT (prm β) c 1 := rfl
    have eP : pE (prm β) M.1 c = M.1 1 c + pT (prm β) c 2 + pT (prm β) c 3 := rfl
    have b0 : M.1 0 c < t ∨ M.1 0 c = -1 := by
      rcases Nat.lt_or_ge c M.2.2.2 with z | z
      · exact Or.inl (a0.1 z).2
      · exact Or.inr (a0.2 z)
    rcases h with h | h | h | h | h
    · rw [h]; exact ifle (by omega) (fun _ => by omega)
    · rw [h]; exact ifle (by omega) (fun _ => by omega)
    · rw [h]; exact ifle (by omega) (fun _ => by omega)
    · rw [h]; exact ifle (by omega) (fun _ => by omega)
    · rw [h]; exact ifle (by omega) (fun _ => by omega)
  · have h7 := (i7 c).mp hc
    have a2 := i2 c
    have hcn : c < (bl β).length := by omega
    have hT := hP.1 c hcn
    have eP : pE (prm β) M.1 c = M.1 1 c + pT (prm β) c 2 + pT (prm β) c 3 := rfl
    omega
  · have h9 := i9 o (by show o < (β 5).toNat; omega)
    rw [h]
    unfold shF
    split <;> omega
theorem nxt_none (hV : V β) (h60 : allF β ≤ 60) (hf : 0 ≤ f ∧ f ≤ 1439) {n0 : Nat} (h : ∀ x, EvC β f (Mt (prm β) (n0 + 1)) x → x ≤ (n0 : Int) + f) : Mt (prm β) (n0 + 1) = Mf (prm β) := by
  have hP := prm_V hV h60
  refine noEv_all hP (by omega) (fun k hk => ?_)
  exact noEv_of hP (Minv_t hP (n0 + 1)) (by omega) (by omega) (fun x hx => by have := h x hx; omega)
theorem nxt_some (hV : V β) (h60 : allF β ≤ 60) (hf : 0 ≤ f ∧ f ≤ 1439) {n0 : Nat} {v : Int} (hn0 : n0 ≤ 140000) (hv : (n0 : Int) + f < v) (hS : EvC β f (Mt (prm β) (n0 + 1)) v) (h : ∀ x, EvC β f (Mt (prm β) (n0 + 1)) x → (n0 : Int) + f < x → v ≤ x) : ∃ n1 : Nat, v = (n1 : Int) + f ∧ n0 < n1 ∧ n1 ≤ 126000 ∧ Mt (prm β) n1 = Mt (prm β) (n0 + 1) := by
  have hP := prm_V hV h60
  have I := Minv_t hP (n0 + 1)
  refine ⟨(v - f).toNat, by omega, by omega, ?_, ?_⟩
  · by_cases hl : n0 + 1 ≤ 124001
    · have := Ev_bd hP I hf.1 (by omega) hS
      omega
    · have e : Mt (prm β) (n0 + 1) = Mt (prm β) 124001 := Mf_late hP (by omega)
      rw [e] at hS
      have := Ev_bd hP (Minv_t hP 124001) hf.1 (by omega) hS
      omega
  · have e : (v - f).toNat = (n0 + 1) + ((v - f).toNat - (n0 + 1)) := by omega
    rw [e]
    refine idle_run hP (by omega) _ (fun k h1 h2 => ?_)
    refine noEv_of (f := f) hP I (by omega) (by omega) (fun x hx z => ?_)
    have := h x hx (by omega)
    omega
end CR
