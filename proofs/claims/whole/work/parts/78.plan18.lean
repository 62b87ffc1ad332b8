/-! questions of both about the best plan -/
section PLI
variable {σ τ : xS} {k n i : Nat} {β γ : Nat → Int} {e f : Int}
def BOTH (σ : xS) (β : Nat → Int) (c : Option (Int × xS)) (r : xS → Option (Int × xS)) : Prop := OK c (fun x => (-2147483648 ≤ x.1 ∧ x.1 < 2147483648) ∧ bfr σ x.2 ∧ TP x.2 β ∧ OK (r x.2) (fun y => y.1 = x.1 ∧ y.2 184 7 = 0 ∧ rfr8 x.2 y.2))
theorem NI_of (hT : TP τ β) {s : xS} (h60 : allF β ≤ 60) (hG : RG s β) (h : rfr7 τ s) : NI s 185 β β 0 := by
  obtain ⟨⟨hB, hβ, hV, h4⟩, hR, hp, h50⟩ := hT
  exact ⟨by omega, by rw [← hβ]; funext j; exact h _ _ (by omega), fun _ _ _ => rfl, hV, hV, h60, hG, Or.inl ⟨rfl, by rw [h _ _ (by omega)]; exact h50⟩⟩
theorem plan_ask (hT : TP σ β) (hn : 4000000 ≤ n) {K : xS → Option (Int × xS)} {R : xS → Option (Int × xS)} (h : σ 0 8 = 1 → allF β ≤ 60 → (0 ≤ σ 184 6 ∧ σ 184 6 ≤ 1439) → OK (K σ) (fun x => (-2147483648 ≤ x.1 ∧ x.1 < 2147483648) ∧ bfr σ x.2 ∧ TP x.2 β ∧ ∀ s, NI s 185 β β 0 → s 184 6 = σ 184 6 → s 185 = β → OK (R s) (fun y => y.1 = x.1 ∧ plf s y.2))) :
    BOTH σ β (if (zI (σ 0 8)) = 0 then some ((-2), σ) else K σ) (fun τ => xbS (m_X13_isNight n τ) fun v2 s1 => if (zI v2) = 0 then some ((-2), s1) else R s1) := by
  have hT' := hT
  obtain ⟨hNT, hR, hp, h50⟩ := hT
  obtain ⟨hB, hβ, hV, h4⟩ := hNT
  rcases h4 with ⟨z1, z2⟩ | ⟨z1, z2, h60, hf, hRF⟩
  · rw [z1, zI_of (n := 0) (by omega) (by omega), if_pos rfl]
    refine OK_some ⟨by (try dsimp only); omega, fun _ _ _ _ => rfl, hT', ?_⟩
    refine OK_xbS (r_isNight hβ hV (NT_h5 hT'.1) hn) (fun v s h => ?_)
    obtain ⟨g1, g2, g3, g4⟩ := h
    dsimp only at g1 g2 g3 g4
    rw [g1, z2, zI_of (by omega) (by omega), if_pos rfl]
    exact OK_some ⟨rfl, g3, rfr7_8 g4⟩
  · have hK := h z1 h60 hf
    rw [z1, zI_of (n := 1) (by omega) (by omega), if_neg (by omega)]
    refine OK_mono hK (fun x hx => ?_)
    obtain ⟨x1, x2, x3, x4⟩ := hx
    refine ⟨x1, x2, x3, ?_⟩
    have e5 : x.2 184 5 = 1 := by rw [x2 _ _ (by omega) (by omega)]; exact z2
    have e6 : x.2 184 6 = σ 184 6 := x2 _ _ (by omega) (by omega)
    refine OK_xbS (r_isNight (σ := x.2) x3.1.2.1 hV (Or.inr ⟨e5, h60⟩) hn) (fun v s h => ?_)
    obtain ⟨g1, g2, g3, g4⟩ := h
    dsimp only at g1 g2 g3 g4
    rw [g1, e5, zI_of (by omega) (by omega), if_neg (by omega)]
    have hG := (g2 e5).1
    have es : s 185 = β := by rw [← x3.1.2.1]; funext j; exact g4 _ _ (by omega)
    refine OK_mono (x4 s (NI_of x3 h60 hG g4) (by rw [g4 _ _ (by omega)]; exact e6) es) (fun y hy => ⟨hy.1, by rw [hy.2 _ _ (by omega) (by omega)]; exact g3, fun a j hj => ?_⟩)
    rw [hy.2 _ _ (by omega) (by omega)]
    exact g4 a j (by omega)
theorem bits_tab : ∀ m : Fin 128, sumTo 7 (fun i => if m.val.testBit i = true then (1 : Int) else 0) = (bcN m.val : Int) := by decide +kernel
theorem r_bits {m : Nat} (hm : m < 128) (hn : 4000000 ≤ n) : m_X13_bits n m = some (bcN m : Int) := by
  unfold m_X13_bits
  refine loop_eq 7 (fun i => (sumTo i (fun i => if m.testBit i = true then (1 : Int) else 0), (i : Int))) rfl ?_ ?_ (by omega)
  · intro i hi rec
    dsimp only
    rw [sumTo, zI_of (n := (i : Int)) (by omega) (by omega), if_neg (by omega), has_of hm hi]
    by_cases t : m.testBit i = true
    · rw [if_pos t, if_neg (by omega)]
      simp only [xlet_eq, if_pos t]
      rfl
    · rw [if_neg t, if_pos rfl]
      simp only [xlet_eq, if_neg t]
      rfl
  · intro rec
    dsimp only
    rw [zI_of (n := ((7 : Nat) : Int)) (by omega) (by omega), if_pos (by omega)]
    exact congrArg some (bits_tab ⟨m, hm⟩)
theorem PB_facts (hT : TP σ β) (h60 : allF β ≤ 60) (hf : 0 ≤ f ∧ f ≤ 1439) : PPV (PX β β 0 f 1439) ∧ PPV (PX β β 0 0 1000000) ∧ -1 ≤ qB (PX β β 0 f 1439) ∧ 0 ≤ qLa (PX β β 0 f 1439) (qB (PX β β 0 f 1439)).toNat ∧ qLa (PX β β 0 f 1439) (qB (PX β β 0 f 1439)).toNat ≤ 21 ∧ (srvF β (Mf (prm β)).1 = 0 ∨ v1 (β 8).toNat = (β 8).toNat → qLa (PX β β 0 f 1439) (qB (PX β β 0 f 1439)).toNat = qLr (PX β β 0 0 1000000) f (qB (PX β β 0 f 1439)).toNat) := by
  have hV := hT.1.2.2.1
  have hA : Ag β β := fun _ _ _ => rfl
  have hP := PX_V (e := 0) (z := 1439) (f := f) hA hV hV h60 (Or.inl rfl) hf (by omega)
  have hP2 := PX_V (e := 0) (z := 1000000) (f := 0) hA hV hV h60 (Or.inl rfl) (by omega) (by omega)
  have h := qLa_bd hP (qB (PX β β 0 f 1439)).toNat
  exact ⟨hP, hP2, (bsI_bd _ _ _ _).1, h.1, h.2, fun hv => lates_same hV h60 hf.1 hv _⟩
theorem q_failedShops (hT : TP σ β) (hn : 4000000 ≤ n) : BOTH σ β (m_X12_failedShops n σ) (m_X13_failedShops n) := by
  unfold m_X12_failedShops m_X13_failedShops
  refine plan_ask hT hn (K := fun σ => (m_X12_bestPlan n σ).bind fun s2 => xj (fun (q6 : Int) => some (q6, s2)) fun J4 => if (zI (s2 139 11)) = 0 then J4 (-1) else (m_X8_missedTotal 139 s2).bind fun v8 => J4 (v8 + (s2 139 12))) (fun h8 h60 hf => ?_)
  have hml : msF β (Mf (prm β)).1 (β 9).toNat < 128 := b7_lt _
  have hbm := bcN_le hml
  refine OK_bind (c_bestPlan hT h8 hn) (fun τ h => ?_)
  obtain ⟨hTt, hPB, hfr⟩ := h
  obtain ⟨hP, hP2, f1, f2, f3, f4⟩ := PB_facts hTt h60 hf
  obtain ⟨p1, p2, ⟨⟨p3, p4⟩, p5⟩⟩ := hPB
  have hRi : ∀ s, NI s 185 β β 0 → s 184 6 = σ 184 6 → OK (xbS (m_X13_hasPlan n s) fun v5 s4 => xj (fun (q9 : Int) => some (q9, s4)) fun J7 => if (zI v5) = 0 then J7 (-1) else (m_X13_bits n (s4 184 47)).bind fun v11 => J7 ((s4 184 52) + v11)) (fun y => y.1 = (if qB (PX β β 0 (σ 184 6) 1439) = -1 then -1 else qLa (PX β β 0 (σ 184 6) 1439) (qB (PX β β 0 (σ 184 6) 1439)).toNat + bcN (msF β (Mf (prm β)).1 (β 9).toNat)) ∧ plf s y.2) := fun s hI h6 => by
    refine OK_xbS (r_hasPlan hI h6 hf hn) (fun v s4 h => ?_)
    obtain ⟨w1, w2, w3, w4, w5⟩ := h
    dsimp only at w1 w2 w3 w4 w5
    rw [xj_eq, w1]
    by_cases c : qB (PX β β 0 (σ 184 6) 1439) = -1
    · rw [if_pos c, zI_of (by omega) (by omega), if_pos rfl, if_pos c]
      exact OK_some ⟨rfl, w5⟩
    · obtain ⟨y1, y2, y3, y4, y5⟩ := w4 c
      have e52 := y4.1
      rw [if_neg c] at e52
      rw [if_neg c, zI_of (by omega) (by omega), if_neg (by omega), w3, r_bits hml hn, bind_some', if_neg c, e52, f4 y1]
      exact OK_some ⟨rfl, w5⟩
  rw [xj_eq]
  by_cases c : qB (PX β β 0 (σ 184 6) 1439) = -1
  · rw [if_pos c] at p3
    simp only [p3]
    rw [zI_of (n := 0) (by omega) (by omega), if_pos rfl]
    refine OK_some ⟨by (try dsimp only); omega, hfr, hTt, fun s hI h6 _ => OK_mono (hRi s hI h6) fun y hy => ⟨by rw [hy.1, if_pos c], hy.2⟩⟩
  · have e12 := (p4 c).1
    rw [if_neg c] at p3
    simp only [p3]
    unfold m_X8_missedTotal
    rw [zI_of (n := 1) (by omega) (by omega), if_neg (by omega), p2, show m_J6_bitCount_0f7a4 (msF β (Mf (prm β)).1 (β 9).toNat : Int) = some (bcN (msF β (Mf (prm β)).1 (β 9).toNat) : Int) from bc_tab ⟨_, hml⟩, bind_some', bind_some', e12]
    refine OK_some ⟨by (try dsimp only); omega, hfr, hTt, fun s hI h6 _ => OK_mono (hRi s hI h6) fun y hy => ⟨?_, hy.2⟩⟩
    rw [hy.1, if_neg c]
    show qLa _ _ + _ = _ + qLa _ _
    omega
/-- the van of a shop -/
def vnV (β : Nat → Int) (f : Int) (s : Nat) : Int := if qB (PX β β 0 f 1439) = -1 then -1 else if (srvF β (Mf (prm β)).1).testBit s = true then (qA (PX β β 0 f 1439) (qB (PX β β 0 f 1439)).toNat s : Int) else -1
theorem bitg_of {m s : Nat} (hm : m < 128) (hs : s < 7) : zI (zand (zshr (m : Int) (s : Int)) 1) = if m.testBit s = true then 1 else 0 := bit_of hm hs
theorem c_vanFor (hP : BP τ 139 (PX β β 0 f 1439)) (hV : PPV (PX β β 0 f 1439)) {s : Nat} (hs : s < 7) (hn : 4000000 ≤ n) : m_X8_vanFor n 139 s τ = some (vnV β f s) := by
  obtain ⟨⟨p3, p4⟩, p5⟩ := hP
  have hv3 : v1 (β 8).toNat ≤ 3 := v1_le hV.2.2.2.1
  unfold m_X8_vanFor vnV
  by_cases c : qB (PX β β 0 f 1439) = -1
  · rw [if_pos c] at p3
    refine loop_eq 0 (fun i => (i : Int)) rfl (fun i hi => absurd hi (Nat.not_lt_zero _)) ?_ (by omega)
    intro rec
    try dsimp only
    rw [xj_eq, if_pos c]
    simp only [p3]
    rw [zI_of (n := ((0 : Nat) : Int)) (by omega) (by omega), if_neg (by omega)]
    simp only [zI_of (n := 0) (by omega) (by omega)]
    rw [if_pos trivial]
  · rw [if_neg c] at p3
    have e10 := (p4 c).2
    rw [if_neg c]
    have hal : qA (PX β β 0 f 1439) (qB (PX β β 0 f 1439)).toNat s < v1 (β 8).toNat := qA_lt _ s
    have hbit : ∀ v, (qG (PX β β 0 f 1439) (qB (PX β β 0 f 1439)).toNat v).testBit s = ((srvF β (Mf (prm β)).1).testBit s && decide (qA (PX β β 0 f 1439) (qB (PX β β 0 f 1439)).toNat s = v)) := fun v => sgA_bit hs
    by_cases t : (srvF β (Mf (prm β)).1).testBit s = true
    · rw [if_pos t]
      generalize qA (PX β β 0 f 1439) (qB (PX β β 0 f 1439)).toNat s = A at hal hbit
      refine loop_eq A (fun i => (i : Int)) rfl ?_ ?_ (by omega)
      · intro i hi rec
        have hg := qG_128 (P := PX β β 0 f 1439) (qB (PX β β 0 f 1439)).toNat i
        have hb := hbit i
        rw [t, decide_eq_false (show ¬ A = i by omega)] at hb
        try dsimp only
        rw [xj_eq]
        simp only [p3]
        rw [zI_of (n := (i : Int)) (by omega) (by omega), if_neg (by omega), zI_of (n := 1) (by omega) (by omega), if_neg (by omega), xck_of (by omega) (by omega), tn_cast, e10 i (by omega), bitg_of hg hs, hb]
        rfl
      · intro rec
        have hg := qG_128 (P := PX β β 0 f 1439) (qB (PX β β 0 f 1439)).toNat A
        have hb := hbit A
        rw [t, decide_eq_true rfl] at hb
        try dsimp only
        rw [xj_eq]
        simp only [p3]
        rw [zI_of (n := (A : Int)) (by omega) (by omega), if_neg (by omega), zI_of (n := 1) (by omega) (by omega), if_neg (by omega), xck_of (by omega) (by omega), tn_cast, e10 A (by omega), bitg_of hg hs, hb]
        rfl
    · rw [if_neg t]
      refine loop_eq 3 (fun i => (i : Int)) rfl ?_ ?_ (by omega)
      · intro i hi rec
        have hg := qG_128 (P := PX β β 0 f 1439) (qB (PX β β 0 f 1439)).toNat i
        have hb := hbit i
        rw [Bool.eq_false_iff.mpr t, Bool.false_and] at hb
        try dsimp only
        rw [xj_eq]
        simp only [p3]
        rw [zI_of (n := (i : Int)) (by omega) (by omega), if_neg (by omega), zI_of (n := 1) (by omega) (by omega), if_neg (by omega), xck_of (by omega) (by omega), tn_cast, e10 i (by omega), bitg_of hg hs, hb]
        rfl
      · intro rec
        try dsimp only
        rw [xj_eq, zI_of (n := ((3 : Nat) : Int)) (by omega) (by omega), if_pos (by omega)]
theorem vnV_bd (hV : PPV (PX β β 0 f 1439)) (s : Nat) : -1 ≤ vnV β f s ∧ vnV β f s < 3 := by
  have hv3 : v1 (β 8).toNat ≤ 3 := v1_le hV.2.2.2.1
  have hal : qA (PX β β 0 f 1439) (qB (PX β β 0 f 1439)).toNat s < v1 (β 8).toNat := qA_lt _ s
  unfold vnV
  split
  · omega
  · split <;> omega
theorem q_vanOf (hT : TP σ β) (hn : 4000000 ≤ n) {p : Int} (h1 : -2147483648 ≤ p) (h2 : p < 2147483648) : BOTH σ β (m_X12_vanOf n p σ) (m_X13_vanOf n p) := by
  unfold m_X12_vanOf m_X13_vanOf
  refine plan_ask hT hn (K := fun σ => xj (fun (q5 : xS × Int) => some (q5.2, q5.1)) fun J3 => if (m_X1_hasShop (bkA (σ 0 3)) p σ) = 0 then J3 (σ, (-1)) else (m_X12_bestPlan n σ).bind fun s7 => (m_X8_vanFor n 139 p s7).bind fun v8 => J3 (s7, v8)) (fun h8 h60 hf => ?_)
  have hV := hT.1.2.2.1
  have v6 := hV.2.2.2.2.2.2.1
  rw [xj_eq, c_hasShop hT.1.1 hV h1 h2]
  by_cases c0 : 0 ≤ p ∧ p < β 6
  · obtain ⟨s, rfl⟩ : ∃ s : Nat, p = (s : Int) := ⟨p.toNat, by omega⟩
    rw [if_pos c0, if_neg (by omega)]
    refine OK_bind (c_bestPlan hT h8 hn) (fun τ h => ?_)
    obtain ⟨hTt, hPB, hfr⟩ := h
    obtain ⟨hP, hP2, f1, f2, f3, f4⟩ := PB_facts hTt h60 hf
    have hvb := vnV_bd hP s
    rw [c_vanFor hPB.2.2 hP (by omega) hn, bind_some']
    refine OK_some ⟨by (try dsimp only); omega, hfr, hTt, fun s1 hI h6 hs => ?_⟩
    try dsimp only
    rw [r_isShopB hs hV h1 h2, if_pos c0, bind_some', xj_eq, xj_eq, zI_of (n := 1) (by omega) (by omega), if_neg (by omega)]
    refine OK_xbS (r_hasPlan hI h6 hf hn) (fun v s4 h => ?_)
    obtain ⟨w1, w2, w3, w4, w5⟩ := h
    dsimp only at w1 w2 w3 w4 w5
    rw [w1]
    by_cases c : qB (PX β β 0 (σ 184 6) 1439) = -1
    · rw [if_pos c, zI_of (by omega) (by omega), if_pos rfl]
      exact OK_some ⟨by unfold vnV; rw [if_pos c], w5⟩
    · obtain ⟨y1, y2, y3, y4, y5⟩ := w4 c
      have e14 := (y4.2 c).2 s (by omega)
      rw [if_neg c, zI_of (by omega) (by omega), if_neg (by omega), zI_of h1 h2, xck_of (by omega) (by omega), tn_cast, e14]
      exact OK_some ⟨by unfold vnV; rw [if_neg c]; rfl, w5⟩
  · rw [if_neg c0, if_pos rfl]
    refine OK_some ⟨by (try dsimp only); omega, fun _ _ _ _ => rfl, hT, fun s1 hI h6 hs => ?_⟩
    try dsimp only
    rw [r_isShopB hs hV h1 h2, if_neg c0, bind_some', xj_eq, xj_eq, zI_of (n := 0) (by omega) (by omega), if_pos rfl]
    exact OK_some ⟨rfl, fun _ _ _ _ => rfl⟩
end PLI
