/-! the reference: keywords, numbers, semicolons -/
section TX13
variable {T : Nat → Int} {L p : Nat} {σ τ υ : xS} {n b : Nat} {s : RS0} {f : Int × Nat}
def rtG (σ : xS) (T : Nat → Int) (L p : Nat) : Prop := rtB σ T L ∧ σ 184 11 = (p : Int) ∧ p ≤ L ∧ σ 184 12 = 0 ∧ σ 184 13 = -1
def rtX (σ : xS) (T : Nat → Int) (L : Nat) (f : Int × Nat) : Prop := rtB σ T L ∧ (∃ p : Nat, σ 184 11 = (p : Int) ∧ p ≤ L) ∧ σ 184 12 = f.1 ∧ σ 184 13 = (f.2 : Int) ∧ 1 ≤ f.1 ∧ f.1 ≤ 5
def rtS (σ : xS) (T : Nat → Int) (L : Nat) (s : RS0) : Prop := match s with
  | .inl f => rtX σ T L f
  | .inr p => rtG σ T L p
theorem rtf_refl : rtf σ σ := fun _ _ _ => rfl
theorem rtf_trans (h1 : rtf σ τ) (h2 : rtf τ υ) : rtf σ υ := fun k j h => by rw [h2 k j h]; exact h1 k j h
theorem rtf_1 (h : rt1 σ τ) : rtf σ τ := fun k j hk => h k j (by omega)
theorem rtB_f (h : rtB σ T L) (hf : rtf σ τ) : rtB τ T L := rtB_same h (fun k j hk => hf k j (by omega))
theorem rtS_same (h : rtS σ T L s) (hs : ∀ k j, (k = 189 ∨ (k = 184 ∧ (j = 10 ∨ j = 11 ∨ j = 12 ∨ j = 13))) → τ k j = σ k j) : rtS τ T L s := by
  have e1 := hs 184 11 (by omega)
  have e2 := hs 184 12 (by omega)
  have e3 := hs 184 13 (by omega)
  cases s with
  | inl f =>
    obtain ⟨h1, ⟨q, h2, h3⟩, h4, h5, h6⟩ := h
    exact ⟨rtB_same h1 (fun k j hk => hs k j (by omega)), ⟨q, by rw [e1]; exact h2, h3⟩, by rw [e2]; exact h4, by rw [e3]; exact h5, h6⟩
  | inr p =>
    obtain ⟨h1, h2, h3, h4, h5⟩ := h
    exact ⟨rtB_same h1 (fun k j hk => hs k j (by omega)), by rw [e1]; exact h2, h3, by rw [e2]; exact h4, by rw [e3]; exact h5⟩
theorem r_fineG (h : rtG σ T L p) : m_X13_fine σ = 1 := by
  rw [r_fine h.2.2.2.1 (by omega), if_pos rfl]
theorem r_fineX (h : rtX σ T L f) : m_X13_fine σ = 0 := by
  obtain ⟨-, -, h4, -, h6⟩ := h
  rw [r_fine h4 (by omega), if_neg (show ¬ f.1 = 0 by omega)]
theorem r_faultyX (h : rtX σ T L f) {c q : Int} : m_X13_faulty c q σ = some σ := by
  obtain ⟨-, -, h4, -, h6⟩ := h
  unfold m_X13_faulty
  rw [h4, zI_of (n := f.1) (by omega) (by omega), if_neg (by omega)]
theorem r_faultyG (hB : rtB σ T L) (hp : ∃ p : Nat, σ 184 11 = (p : Int) ∧ p ≤ L) (h0 : σ 184 12 = 0) {c : Int} {q : Nat} (hc : 1 ≤ c ∧ c ≤ 5) : OK (m_X13_faulty c (q : Int) σ) (fun τ => rtX τ T L (c, q) ∧ rtf σ τ ∧ τ 184 11 = σ 184 11) := by
  unfold m_X13_faulty
  rw [h0, show zI 0 = 0 from rfl, if_pos rfl, xlet_eq, xlet_eq]
  have hf : ∀ k j, ¬ (k = 184 ∧ (j = 12 ∨ j = 13)) → (xput (xput σ 184 12 c) 184 13 (q : Int)) k j = σ k j := fun k j hk => by rw [xput_ne (by omega), xput_ne (by omega)]
  obtain ⟨p, hp1, hp2⟩ := hp
  refine OK_some ⟨⟨rtB_same hB (fun k j hk => hf k j (by omega)), ⟨p, by rw [hf _ _ (by omega)]; exact hp1, hp2⟩, ?_, xput_eq, hc⟩, fun k j hk => hf k j (by omega), hf _ _ (by omega)⟩
  rw [xput_ne (by omega), xput_eq]
theorem r_skipsG (h : rtG σ T L p) {q : Nat} (hq : q ≤ L) (hn : 4000000 ≤ n) : OK (m_X13_skips n (xput σ 184 11 (q : Int))) (fun τ => rtG τ T L (skF T L q) ∧ rt1 σ τ) := by
  obtain ⟨h1, h2, h3, h4, h5⟩ := h
  have hB : rtB (xput σ 184 11 (q : Int)) T L := rtB_same h1 (fun k j hk => xput_ne (by omega))
  refine OK_mono (r_skips hB xput_eq hq hn) (fun τ ht => ?_)
  have hf : rt1 σ τ := fun k j hk => by rw [ht.2 k j hk, xput_ne hk]
  exact ⟨⟨rtB_same h1 (fun k j hk => hf k j (by omega)), ht.1, (skF_spec hq).2.1, by rw [hf _ _ (by omega)]; exact h4, by rw [hf _ _ (by omega)]; exact h5⟩, hf⟩
theorem r_takesG (h : rtG σ T L p) {w : Nat} (hw : w < 24) (hn : 4000000 ≤ n) : OK (m_X13_takes n w σ) (fun x => (if kwF T L p = (w : Int) then x.1 = 1 ∧ rtG x.2 T L (ntF T L p) else x.1 = 0 ∧ x.2 = σ) ∧ rt1 σ x.2) := by
  have h' := h
  obtain ⟨h1, h2, h3, h4, h5⟩ := h'
  obtain ⟨q1, q2, q3⟩ := wl_tab ⟨w, hw⟩
  dsimp only at q1 q2 q3
  unfold m_X13_takes
  rw [r_isWord h1 h2 h3 h4 hw hn, bind_some']
  have hkw := kw_iff (T := T) (L := L) (p := p) hw
  by_cases c : iwB T L p w = true
  · rw [if_pos c, show zI 1 = 1 from rfl, if_neg (by omega), xlet_eq, h2, q3]
    obtain ⟨c1, c2, -⟩ := iwB_iff.mp c
    have e := enF_spec (T := T) h3
    rw [show (p : Int) + (wl w : Int) = ((enF T L p : Nat) : Int) from by omega]
    refine OK_bind (r_skipsG h e.2.1 hn) (fun τ ht => OK_some ⟨?_, ht.2⟩)
    rw [if_pos (hkw.mpr c)]
    exact ⟨rfl, ht.1⟩
  · rw [if_neg c, show zI 0 = 0 from rfl, if_pos rfl]
    refine OK_some ⟨?_, fun _ _ _ => rfl⟩
    rw [if_neg (fun z => c (hkw.mp z))]
    exact ⟨rfl, rfl⟩
theorem r_takesX (h : rtX σ T L f) {w : Nat} : m_X13_takes n w σ = some (0, σ) := by
  obtain ⟨-, -, h4, -, h6⟩ := h
  unfold m_X13_takes
  rw [r_isWord0 h4 h6, bind_some', show zI 0 = 0 from rfl, if_pos rfl]
/-- a word that must stand here -/
def rWrd (T : Nat → Int) (L : Nat) (w : Int) (p : Nat) : RS1 := if kwF T L p = w then .inr (0, ntF T L p) else .inl (1, p)
theorem r_needs (h : rtS σ T L s) {w : Nat} (hw : w < 24) (hn : 4000000 ≤ n) : OK (m_X13_needs n w σ) (fun τ => rtS τ T L (nxS (bnd s (rWrd T L w))) ∧ rtf σ τ) := by
  unfold m_X13_needs
  rw [xj_eq]
  cases s with
  | inl f =>
    have hX : rtX σ T L f := h
    rw [r_fineX hX, if_pos rfl]
    exact OK_some ⟨hX, rtf_refl⟩
  | inr p =>
    have hG : rtG σ T L p := h
    rw [r_fineG hG, if_neg (by omega)]
    refine OK_xbS (r_takesG hG hw hn) (fun v τ ht => ?_)
    obtain ⟨t1, t2⟩ := ht
    dsimp only at t1 t2
    have e : nxS (bnd (.inr p) (rWrd T L w)) = if kwF T L p = (w : Int) then .inr (ntF T L p) else .inl (1, p) := by
      show nxS (rWrd T L w p) = _
      unfold rWrd
      split <;> rfl
    rw [e]
    by_cases c : kwF T L p = (w : Int)
    · rw [if_pos c] at t1 ⊢
      rw [t1.1, show zI 1 = 1 from rfl, if_neg (by omega)]
      exact OK_some ⟨t1.2, rtf_1 t2⟩
    · rw [if_neg c] at t1 ⊢
      rw [t1.1, show zI 0 = 0 from rfl, if_pos rfl, t1.2, hG.2.1]
      refine OK_bind (r_faultyG hG.1 ⟨p, hG.2.1, hG.2.2.1⟩ hG.2.2.2.1 (c := 1) (q := p) (by omega)) (fun u hu => OK_some ⟨hu.1, hu.2.1⟩)
theorem r_semicolon (h : rtS σ T L s) (hn : 4000000 ≤ n) : OK (m_X13_semicolon n σ) (fun τ => rtS τ T L (nxS (bnd s (rSem T L))) ∧ rtf σ τ) := by
  unfold m_X13_semicolon
  cases s with
  | inl f =>
    have hX : rtX σ T L f := h
    rw [r_fineX hX, if_pos rfl]
    exact OK_some ⟨hX, rtf_refl⟩
  | inr p =>
    have hG : rtG σ T L p := h
    obtain ⟨h1, h2, h3, h4, h5⟩ := h
    have hT := h1.2.2.2
    have hb := byT_bd (L := L) hT (i := p)
    rw [r_fineG hG, if_neg (by omega), r_here h1 h2 h3, bind_some', zI_of (n := byT T L p) (by omega) (by omega)]
    have e : nxS (bnd (.inr p) (rSem T L)) = if kdF T L p = 3 then .inr (ntF T L p) else .inl (1, p) := by
      show nxS (rSem T L p) = _
      unfold rSem
      split <;> rfl
    have hk : byT T L p = 59 ↔ kdF T L p = 3 := by
      have hT' := hT p
      unfold byT kdF kF
      repeat' split
      all_goals omega
    rw [e]
    by_cases c : kdF T L p = 3
    · rw [if_pos (hk.mpr c), if_pos c, xlet_eq, h2]
      have hlt : p < L := by
        refine Nat.lt_of_not_le fun z => ?_
        unfold kdF at c
        rw [if_neg (by omega)] at c
        omega
      have he : ntF T L p = skF T L (p + 1) := by
        unfold ntF enF
        have c' := c
        unfold kdF at c'
        rw [if_pos hlt] at c'
        rw [if_pos hlt, c', if_neg (by omega)]
      rw [he, show (p : Int) + 1 = ((p + 1 : Nat) : Int) from by omega]
      refine OK_bind (r_skipsG hG (by omega) hn) (fun τ ht => OK_some ⟨ht.1, rtf_1 ht.2⟩)
    · rw [if_neg (fun z => c (hk.mp z)), if_neg c, h2]
      refine OK_bind (r_faultyG h1 ⟨p, h2, h3⟩ h4 (c := 1) (q := p) (by omega)) (fun u hu => OK_some ⟨hu.1, hu.2.1⟩)
theorem r_skipsWord (h : rtG σ T L p) (hk : kdF T L p = 1) (hn : 4000000 ≤ n) : OK (m_X13_skipsWord n σ) (fun τ => rtG τ T L (ntF T L p) ∧ rt1 σ τ) := by
  have h' := h
  obtain ⟨h1, h2, h3, h4, h5⟩ := h'
  have e := enF_spec (T := T) h3
  unfold m_X13_skipsWord
  rw [r_wordLength h1 h2 h3 hn, bind_some', xlet_eq, h2]
  unfold wlT
  rw [if_pos hk, show (p : Int) + ((enF T L p - p : Nat) : Int) = ((enF T L p : Nat) : Int) from by omega]
  exact OK_bind (r_skipsG h e.2.1 hn) (fun τ ht => OK_some ht)
end TX13
