/-! the class alone: the law's look at the latest start; changes undone -/
section CLSA
variable {σ τ s x y : xS} {n m b : Nat} {β γ δ : Nat → Int} {B : Nat → Nat → Int} {p q u w f : Int}
theorem xbS_s {ρ : Type} {v : Int} {F : Int → xS → Option ρ} : xbS (some (v, σ)) F = F v σ := rfl
/-- a bakery of the law's text -/
def TB (β : Nat → Int) : Prop := V β ∧ V0 β ∧ β 0 = 24 ∧ β 1 = 30 ∧ β 4 = 2 ∧ β 5 = 1 ∧ β 6 = 2 ∧ β 7 = 3 ∧ β 8 = 1 ∧ β 9 = 4 ∧ allF β ≤ 60 ∧ (∀ o, o < 4 → oF β o 4 = 0) ∧ 200 ≤ oF β 0 3
/-- what a round leaves alone -/
def kp (σ τ : xS) : Prop := ∀ a j, a = 1 ∨ (a = 0 ∧ (j = 1 ∨ j = 3 ∨ j = 4)) → τ a j = σ a j
theorem kp_t (h1 : kp σ τ) (h2 : kp τ s) : kp σ s := fun a j h => (h2 a j h).trans (h1 a j h)
theorem kp_c (h : cfr σ τ) : kp σ τ := fun a j hj => by
  have hb := bk_two (σ 0 3)
  exact h a j (by omega) (by omega) (by omega)
/-- the class with a bakery, nothing to undo -/
def CK (s σ : xS) (β : Nat → Int) : Prop := CB σ β ∧ σ 114 3 = 0 ∧ kp s σ
theorem CK_sim (h : CK s σ β) (hB : CB τ β) (hs : ∀ a j, ¬ (118 ≤ a ∧ a < 139) → ¬ (a = 0 ∧ (j = 8 ∨ j = 9)) → τ a j = σ a j) : CK s τ β :=
  ⟨hB, by rw [hs _ _ (by omega) (by omega)]; exact h.2.1, kp_t h.2.2 (fun a j hj => hs a j (by omega) (by omega))⟩
theorem CK_bfr (h : CK s σ β) (hB : CB τ β) (hs : bfr σ τ) : CK s τ β :=
  ⟨hB, by rw [hs _ _ (by omega) (by omega)]; exact h.2.1, kp_t h.2.2 (fun a j hj => hs a j (by omega) (by omega))⟩
theorem CK_try (h : CK s σ β) (hs : ∀ a j, ¬ (151 ≤ a ∧ a ≤ 183) → τ a j = σ a j) : CK s τ β :=
  ⟨CB_same h.1 (hs _ _ (by omega)) (fun a j c1 c2 => hs a j (by omega)), by rw [hs _ _ (by omega)]; exact h.2.1, kp_t h.2.2 (fun a j hj => hs a j (by omega))⟩
theorem CK_vit (h : CK s σ β) (hB : CB τ β) (hs : vfr σ τ) : CK s τ β := by
  have hb := bk_two (σ 0 3)
  exact ⟨hB, by rw [hs _ _ (by omega) (by omega)]; exact h.2.1, kp_t h.2.2 (fun a j hj => hs a j (by omega) (by omega))⟩
theorem ed_bd (hV : V β) (h60 : allF β ≤ 60) : 0 ≤ edF β ∧ edF β ≤ 201000 := endF_bd (prm_V hV h60) (Mf_NB hV h60) (bl β).length (Nat.le_refl _)
/-- behind the nights that the law simulates: the vital street, the other van -/
theorem l_rest (hc : CK s σ β) (hT : TB β) (hL : 0 ≤ ltV β β 0) (hn : 4000000 ≤ n) : OK (xbS (m_X12_vitalStreet n σ) fun v26 s25 => xj (fun (q31 : xS) => xbS (m_X12_latestStartWith n 4 q31) fun v33 s32 => xj (fun (q40 : xS × Int) => xbo q40.2 (some (q40.2, q40.1))) fun J38 => xj (fun (q43 : xS) => J38 (q43, 0)) fun J41 => if (zI v33) < ltV β β 0 then J41 s32 else xbS (m_X12_latestStartWith n 5 s32) fun v46 s45 => if (zI v46) = (-1) then J38 (s45, 1) else J41 s45) fun J29 => if (zI v26) < 0 then J29 s25 else xbS (m_X12_closeStreet n v26 1 s25) fun v50 s49 => xj (fun (q55 : xS) => some (0, q55)) fun J53 => if (zI v50) = 0 then J53 s49 else xbS (m_X12_latestStart n s49) fun v58 s57 => if ltV β β 0 ≤ (zI v58) then J53 s57 else xbS (m_X12_undo n s57) fun v61 s60 => if (zI v61) = 0 then J29 s60 else J53 s60) (fun x => x.1 = 1 ∧ CK s x.2 β) := by
  obtain ⟨hV, h0, t0, t1, t4, t5, t6, t7, t8, t9, h60, to, t3⟩ := hT
  have hA : Ag β β := fun _ _ _ => rfl
  have hlb := ltV_bd (β := β) (γ := β) (e := 0) hA hV hV h60 (Or.inl rfl)
  have hlb4 := ltV_bd (β := β) (γ := β) (e := 1000000) hA hV hV h60 (Or.inr rfl)
  have hmore := lt_more hV h60
  have hz : zI (ltV β β 0) = ltV β β 0 := zI_of (by omega) (by omega)
  have hvb := vg_bd hV h60 3 (by omega)
  have hJ : ∀ t : xS, CK s t β → OK (xbS (m_X12_latestStartWith n 4 t) fun v33 s32 => xj (fun (q40 : xS × Int) => xbo q40.2 (some (q40.2, q40.1))) fun J38 => xj (fun (q43 : xS) => J38 (q43, 0)) fun J41 => if (zI v33) < ltV β β 0 then J41 s32 else xbS (m_X12_latestStartWith n 5 s32) fun v46 s45 => if (zI v46) = (-1) then J38 (s45, 1) else J41 s45) (fun x => x.1 = 1 ∧ CK s x.2 β) := fun t ht => by
    refine OK_xbS (c_with4 ht.1 hn h60) (fun v z g => ?_)
    obtain ⟨g1, g2⟩ := g
    dsimp only at g1 g2
    subst g1
    rw [xj_eq, xj_eq, zI_of (n := ltV β β 1000000) (by omega) (by omega), if_neg (by omega), c_with5, xbS_s, zI_of (n := -1) (by omega) (by omega), if_pos rfl]
    dsimp only
    rw [xbo_1]
    exact OK_some ⟨rfl, CK_try ht g2⟩
  refine OK_xbS (c_vital hc.1 hn h60) (fun v z g => ?_)
  obtain ⟨g1, g2, g3⟩ := g
  dsimp only at g1 g2 g3
  have hz2 := CK_vit hc g2 g3
  rw [t7] at g1
  subst g1
  rw [xj_eq, show (3 : Int).toNat = 3 from rfl, zI_of (n := (vtG β 3).2) (by omega) (by omega)]
  rcases vg_spec (β := β) 3 with ⟨h2, -⟩ | ⟨t, h1, h2, h3, h4, h5⟩
  · rw [h2, if_pos (by omega)]
    exact hJ z hz2
  · rw [h2, if_neg (by omega)]
    have HX0 : HX z 0 (fun _ => β) := ⟨hz2.2.1, fun i hi => absurd hi (Nat.not_lt_zero _)⟩
    refine OK_xbS (a_close (q := 1) g2 h0 HX0 (by omega) rfl (Or.inr rfl) hn (o := t) (by omega)) (fun v50 s49 k => ?_)
    obtain ⟨k1, k2, k3, k4, k5, k6⟩ := k
    dsimp only at k1 k2 k3 k4 k5 k6
    subst k1
    have hS : NoS β (clG β t) := NoS_of (o := t) (by omega) cg_d
    have hld : ltV (clG β t) (clG β t) 0 = ltV (clG β t) β 0 := s_lt hS hV
    have h60d : allF (clG β t) ≤ 60 := by rw [s_all hS hV]; exact h60
    rw [xj_eq, zI_of (n := 1) (by omega) (by omega), if_neg (by omega)]
    refine OK_xbS (c_latestStart k2 hn h60d) (fun v58 s57 l => ?_)
    obtain ⟨l1, l2⟩ := l
    dsimp only at l1 l2
    rw [hld] at l1
    subst l1
    rw [← h4, zI_of (n := (vtG β 3).1) (by omega) (by omega), if_neg (by omega)]
    have hu1 : upB (fun _ => β) 0 (clG β t) 1 = clG β t := upB_gt (by omega)
    have k4' : HX s57 1 (upB (fun _ => β) 0 (clG β t)) := ⟨by rw [l2 _ _ (by omega)]; exact k4.1, fun i hi => by rw [l2 115 _ (by omega), l2 116 _ (by omega), l2 117 _ (by omega)]; exact k4.2 i hi⟩
    have k2' : CB s57 (clG β t) := CB_same k2 (l2 _ _ (by omega)) (fun a j c1 c2 => l2 a j (by omega))
    refine OK_xbS (a_undo (m := 0) (by rw [hu1]; exact k2') k4' (by omega) hn) (fun v61 s60 r => ?_)
    obtain ⟨r1, r2, r3, r4, r5⟩ := r
    dsimp only at r1 r2 r3 r4 r5
    subst r1
    rw [upB_le (Nat.le_refl 0)] at r2
    rw [zI_of (n := ((0 : Nat) : Int)) (by omega) (by omega), if_pos (by omega)]
    refine hJ s60 ⟨r2, r3.1, ?_⟩
    exact kp_t (kp_t (kp_t hz2.2.2 (kp_c k6)) (fun a j hj => l2 a j (by omega))) (kp_c r5)
theorem l_isLatest (hc : CK s σ β) (hT : TB β) (hn : 4000000 ≤ n) : OK (m_L_isLatest n σ) (fun x => x.1 = 1 ∧ CK s x.2 β) := by
  have hT' := hT
  obtain ⟨hV, h0, t0, t1, t4, t5, t6, t7, t8, t9, h60, to, t3⟩ := hT
  have hA : Ag β β := fun _ _ _ => rfl
  have hlb := ltV_bd (β := β) (γ := β) (e := 0) hA hV hV h60 (Or.inl rfl)
  have heb := ed_bd hV h60
  unfold m_L_isLatest
  refine OK_xbS (c_latestStart hc.1 hn h60) (fun v s1 g => ?_)
  obtain ⟨g1, g2⟩ := g
  dsimp only at g1 g2
  subst g1
  have c1 := CK_try hc g2
  have hz : zI (ltV β β 0) = ltV β β 0 := zI_of (by omega) (by omega)
  refine OK_xbS (c_simulate (f := 0) c1.1 hn (by omega) h60) (fun v4 s3 g => ?_)
  obtain ⟨-, g3, g4, g5⟩ := g
  dsimp only at g3 g4 g5
  have c3 := CK_sim c1 g3 g5
  refine OK_xbS (c_failedShops c3.1 g4 hn) (fun v6 s5 g => ?_)
  obtain ⟨k1, k2, k3, k4⟩ := g
  dsimp only at k1 k2 k3 k4
  have c5 := CK_bfr c3 k2 k4
  have hfl0 := fl_lt hV h60 (f := 0) (by omega)
  have hfb : ∀ f, -1 ≤ flF β f ∧ flF β f ≤ 1000 := fun f => fl_bd hV
  have hfb0 := hfb 0
  subst k1
  rw [hz, zI_of (n := flF β 0) (by omega) (by omega)]
  by_cases cL : 0 ≤ ltV β β 0
  · rw [if_pos cL, xj_eq, if_pos (hfl0.1.mpr cL)]
    refine OK_xbS (c_simulate (f := ltV β β 0) c5.1 hn (by omega) h60) (fun v15 s14 g => ?_)
    obtain ⟨l1, l2, l3, l4⟩ := g
    dsimp only at l1 l2 l3 l4
    have c14 := CK_sim c5 l2 l4
    rw [zI_of (n := v15) (by omega) (by omega), if_neg (by omega)]
    refine OK_xbS (c_failedShops c14.1 l3 hn) (fun v18 s17 g => ?_)
    obtain ⟨m1, m2, m3, m4⟩ := g
    dsimp only at m1 m2 m3 m4
    have c17 := CK_bfr c14 m2 m4
    have hflL := fl_lt hV h60 (f := ltV β β 0) (by omega)
    rw [hflL.1.mpr (Int.le_refl _)] at m1
    subst m1
    rw [zI_of (n := 0) (by omega) (by omega), if_pos rfl, xj_eq]
    by_cases cm : 1439 ≤ ltV β β 0
    · rw [if_pos cm]
      exact l_rest c17 hT' cL hn
    · rw [if_neg cm]
      refine OK_xbS (c_simulate (f := ltV β β 0 + 1) c17.1 hn (by omega) h60) (fun v65 s64 g => ?_)
      obtain ⟨n1, n2, n3, n4⟩ := g
      dsimp only at n1 n2 n3 n4
      have c64 := CK_sim c17 n2 n4
      rw [xj_eq, zI_of (n := v65) (by omega) (by omega), if_neg (by omega)]
      refine OK_xbS (c_failedShops c64.1 n3 hn) (fun v73 s72 g => ?_)
      obtain ⟨o1, o2, o3, o4⟩ := g
      dsimp only at o1 o2 o3 o4
      have c72 := CK_bfr c64 o2 o4
      have hflM := fl_lt hV h60 (f := ltV β β 0 + 1) (by omega)
      have hfbM := hfb (ltV β β 0 + 1)
      have hpos : 0 < flF β (ltV β β 0 + 1) := by
        have a := hflM.2 cL
        have b : flF β (ltV β β 0 + 1) ≠ 0 := fun z => by
          have := hflM.1.mp z
          omega
        omega
      subst o1
      rw [zI_of (n := flF β (ltV β β 0 + 1)) (by omega) (by omega), if_pos hpos]
      exact l_rest c72 hT' cL hn
  · have hne : flF β 0 ≠ 0 := fun z => cL (hfl0.1.mp z)
    rw [if_neg cL, xj_eq, xj_eq, if_neg hne]
    refine OK_xbS (c_vital c5.1 hn h60) (fun v87 s86 g => ?_)
    obtain ⟨l1, l2, l3⟩ := g
    dsimp only at l1 l2 l3
    rw [vg_none (by omega) hV h60 _ (by omega)] at l1
    subst l1
    rw [zI_of (n := -1) (by omega) (by omega), if_pos rfl]
    dsimp only
    rw [xbo_1]
    exact OK_some ⟨rfl, CK_vit c5 l2 l3⟩
end CLSA
