/-! questions of both about the best plan: arrival, departure -/
section PLJ
variable {σ τ : xS} {k n i : Nat} {β γ : Nat → Int} {e f : Int}
/-- the arrival at a served shop -/
theorem c_arrives (hP : BP τ 139 (PX β β 0 f 1439)) (hT : TP σ β) (h60 : allF β ≤ 60) (hf : 0 ≤ f ∧ f ≤ 1439) (c : qB (PX β β 0 f 1439) ≠ -1) {s : Nat} (hs : s < 7) (t : (srvF β (Mf (prm β)).1).testBit s = true) (hv : srvF β (Mf (prm β)).1 = 0 ∨ v1 (β 8).toNat = (β 8).toNat) : τ 150 s = f + qAr (PX β β 0 0 1000000) (qB (PX β β 0 f 1439)).toNat s (qA (PX β β 0 0 1000000) (qB (PX β β 0 f 1439)).toNat s) := by
  have hV := hT.1.2.2.1
  have hv1 : v1 (β 8).toNat = (β 8).toNat := by
    rcases hv with z | z
    · rw [z, Nat.zero_testBit] at t
      exact absurd t (by decide)
    · exact z
  have ha : qA (PX β β 0 f 1439) (qB (PX β β 0 f 1439)).toNat s < (β 8).toNat := by
    have : qA (PX β β 0 f 1439) (qB (PX β β 0 f 1439)).toNat s < v1 (β 8).toNat := qA_lt _ s
    omega
  have hb2 : (qG (PX β β 0 f 1439) (qB (PX β β 0 f 1439)).toNat (qA (PX β β 0 f 1439) (qB (PX β β 0 f 1439)).toNat s)).testBit s = true := by
    have : (qG (PX β β 0 f 1439) (qB (PX β β 0 f 1439)).toNat (qA (PX β β 0 f 1439) (qB (PX β β 0 f 1439)).toNat s)).testBit s = ((srvF β (Mf (prm β)).1).testBit s && decide (qA (PX β β 0 f 1439) (qB (PX β β 0 f 1439)).toNat s = qA (PX β β 0 f 1439) (qB (PX β β 0 f 1439)).toNat s)) := sgA_bit hs
    rw [this, t, decide_eq_true rfl]
    rfl
  have h := hP.2 c _ ha s hs hb2
  have hsb : sbP (qG (PX β β 0 f 1439) (qB (PX β β 0 f 1439)).toNat (qA (PX β β 0 f 1439) (qB (PX β β 0 f 1439)).toNat s)) (srvF β (Mf (prm β)).1) := qG_sb (P := PX β β 0 f 1439) _ _
  have hdp := dp_same hV h60 hf.1 hsb hs hb2
  have h' : τ 150 s = dpF (rdC f β (Mf (prm β)).1 (β 9).toNat) (qG (PX β β 0 f 1439) (qB (PX β β 0 f 1439)).toNat (qA (PX β β 0 f 1439) (qB (PX β β 0 f 1439)).toNat s)) + arF (dsF β) (β 6).toNat (qG (PX β β 0 f 1439) (qB (PX β β 0 f 1439)).toNat (qA (PX β β 0 f 1439) (qB (PX β β 0 f 1439)).toNat s)) s := h
  rw [h', hdp, Int.add_assoc]
  rfl
/-- a plan that serves a shop has vans -/
theorem best_v (hT : TP σ β) (h60 : allF β ≤ 60) (hf : 0 ≤ f ∧ f ≤ 1439) (c : qB (PX β β 0 f 1439) ≠ -1) : srvF β (Mf (prm β)).1 = 0 ∨ v1 (β 8).toNat = (β 8).toNat := by
  have hP := (PB_facts hT h60 hf).1
  have h := (bsI_ok (fz := qFz (PX β β 0 f 1439)) (la := qLa (PX β β 0 f 1439)) (mi := qMi (PX β β 0 f 1439)) _ c).2
  exact (qW_v hP h).1
theorem q_arrivalMinute (hT : TP σ β) (hn : 4000000 ≤ n) {p : Int} (h1 : -2147483648 ≤ p) (h2 : p < 2147483648) : BOTH σ β (m_X12_arrivalMinute n p σ) (m_X13_arrivalMinute n p) := by
  unfold m_X12_arrivalMinute m_X13_arrivalMinute
  refine plan_ask hT hn (K := fun σ => if (m_X1_hasShop (bkA (σ 0 3)) p σ) = 0 then some ((-1), σ) else (m_X12_bestPlan n σ).bind fun s3 => (m_X8_vanFor n 139 p s3).bind fun v4 => xj (fun (q7 : Int) => some (q7, s3)) fun J5 => if (zI v4) = (-1) then J5 (-1) else xck (zI p) 7 <| J5 (s3 (139 + 11) (zI p).toNat)) (fun h8 h60 hf => ?_)
  have hV := hT.1.2.2.1
  have v6 := hV.2.2.2.2.2.2.1
  rw [c_hasShop hT.1.1 hV h1 h2]
  by_cases c0 : 0 ≤ p ∧ p < β 6
  · obtain ⟨s, rfl⟩ : ∃ s : Nat, p = (s : Int) := ⟨p.toNat, by omega⟩
    rw [if_pos c0, if_neg (by omega)]
    refine OK_bind (c_bestPlan hT h8 hn) (fun τ h => ?_)
    obtain ⟨hTt, hPB, hfr⟩ := h
    obtain ⟨hP, hP2, f1, f2, f3, f4⟩ := PB_facts hTt h60 hf
    have hvb := vnV_bd hP s
    rw [c_vanFor hPB.2.2 hP (by omega) hn, bind_some', xj_eq, zI_of (n := vnV β (σ 184 6) s) (by omega) (by omega)]
    have hRi : ∀ s1, NI s1 185 β β 0 → s1 184 6 = σ 184 6 → s1 185 = β → OK ((m_X13_isShop (s : Int) s1).bind fun v4 => xj (fun (q11 : xS × Int) => some (q11.2, q11.1)) fun J9 => xj (fun (q14 : xS) => J9 (q14, (-1))) fun J12 => if (zI v4) = 0 then J12 s1 else xbS (m_X13_hasPlan n s1) fun v17 s16 => if (zI v17) = 0 then J12 s16 else xck (zI (s : Int)) 7 <| if (zI (s16 214 (zI (s : Int)).toNat)) = (-1) then J12 s16 else xck (zI (s : Int)) 7 <| J9 (s16, (s16 184 6) + (s16 213 (zI (s : Int)).toNat))) (fun y => y.1 = (if vnV β (σ 184 6) s = -1 then -1 else σ 184 6 + qAr (PX β β 0 0 1000000) (qB (PX β β 0 (σ 184 6) 1439)).toNat s (qA (PX β β 0 0 1000000) (qB (PX β β 0 (σ 184 6) 1439)).toNat s)) ∧ plf s1 y.2) := fun s1 hI h6 hs => by
      rw [r_isShopB hs hV h1 h2, if_pos c0, bind_some', xj_eq, xj_eq, zI_of (n := 1) (by omega) (by omega), if_neg (by omega)]
      refine OK_xbS (r_hasPlan hI h6 hf hn) (fun v s4 h => ?_)
      obtain ⟨w1, w2, w3, w4, w5⟩ := h
      dsimp only at w1 w2 w3 w4 w5
      rw [w1]
      by_cases c : qB (PX β β 0 (σ 184 6) 1439) = -1
      · have ev : vnV β (σ 184 6) s = -1 := by unfold vnV; rw [if_pos c]
        rw [if_pos c, zI_of (by omega) (by omega), if_pos rfl, if_pos ev]
        exact OK_some ⟨rfl, w5⟩
      · obtain ⟨y1, y2, y3, y4, y5⟩ := w4 c
        have e14 := (y4.2 c).2 s (by omega)
        have e6 : s4 184 6 = σ 184 6 := by rw [w5 _ _ (by omega) (by omega)]; exact h6
        have e14' : s4 214 s = vnV β (σ 184 6) s := by
          unfold vnV
          rw [if_neg c]
          exact e14
        rw [if_neg c, zI_of (n := 1) (by omega) (by omega), if_neg (by omega), zI_of h1 h2, xck_of (by omega) (by omega), tn_cast]
        simp only [e14']
        rw [zI_of (n := vnV β (σ 184 6) s) (by omega) (by omega)]
        by_cases cv : vnV β (σ 184 6) s = -1
        · rw [if_pos cv, if_pos cv]
          exact OK_some ⟨rfl, w5⟩
        · have t : (srvF β (Mf (prm β)).1).testBit s = true := by
            refine Classical.byContradiction fun h => cv ?_
            unfold vnV
            rw [if_neg c, if_neg h]
          rw [if_neg cv, xck_of (by omega) (by omega), if_neg cv, e6, y2 s (by omega) t]
          exact OK_some ⟨rfl, w5⟩
    by_cases cv : vnV β (σ 184 6) s = -1
    · rw [if_pos cv]
      exact OK_some ⟨by (try dsimp only); omega, hfr, hTt, fun s1 hI h6 hs => OK_mono (hRi s1 hI h6 hs) fun y hy => ⟨by rw [hy.1, if_pos cv], hy.2⟩⟩
    · have c : qB (PX β β 0 (σ 184 6) 1439) ≠ -1 := fun h => cv (by unfold vnV; rw [if_pos h])
      have t : (srvF β (Mf (prm β)).1).testBit s = true := by
        refine Classical.byContradiction fun h => cv ?_
        unfold vnV
        rw [if_neg c, if_neg h]
      have hv := best_v hTt h60 hf c
      have har := c_arrives hPB.2.2 hTt h60 hf c (show s < 7 by omega) t hv
      have hab := qAr_bd hP2 (qB (PX β β 0 (σ 184 6) 1439)).toNat s (qA (PX β β 0 0 1000000) (qB (PX β β 0 (σ 184 6) 1439)).toNat s)
      simp only [zI_of h1 h2, tn_cast] at hRi
      rw [if_neg cv, zI_of h1 h2, xck_of (by omega) (by omega), tn_cast, har]
      exact OK_some ⟨by (try dsimp only); omega, hfr, hTt, fun s1 hI h6 hs => OK_mono (hRi s1 hI h6 hs) fun y hy => ⟨by rw [hy.1, if_neg cv], hy.2⟩⟩
  · rw [if_neg c0, if_pos rfl]
    refine OK_some ⟨by (try dsimp only); omega, fun _ _ _ _ => rfl, hT, fun s1 hI h6 hs => ?_⟩
    try dsimp only
    rw [r_isShopB hs hV h1 h2, if_neg c0, bind_some', xj_eq, xj_eq, zI_of (n := 0) (by omega) (by omega), if_pos rfl]
    exact OK_some ⟨rfl, fun _ _ _ _ => rfl⟩
/-- when a van departs -/
def dpV (β : Nat → Int) (f : Int) (v : Nat) : Int := if qB (PX β β 0 f 1439) = -1 then -1 else if qG (PX β β 0 f 1439) (qB (PX β β 0 f 1439)).toNat v = 0 then -1 else f + dpF (rdC 0 β (Mf (prm β)).1 (β 9).toNat) (qG (PX β β 0 f 1439) (qB (PX β β 0 f 1439)).toNat v)
theorem q_departureMinute (hT : TP σ β) (hn : 4000000 ≤ n) {p : Int} (h1 : -2147483648 ≤ p) (h2 : p < 2147483648) : BOTH σ β (m_X12_departureMinute n p σ) (m_X13_departureMinute n p) := by
  unfold m_X12_departureMinute m_X13_departureMinute
  refine plan_ask hT hn (K := fun σ => xj (fun (q5 : xS × Int) => some (q5.2, q5.1)) fun J3 => if (m_X1_hasVan (bkA (σ 0 3)) p σ) = 0 then J3 (σ, (-1)) else (m_X12_bestPlan n σ).bind fun s7 => (m_X8_departureOf n 139 p s7).bind fun v8 => J3 (s7, v8)) (fun h8 h60 hf => ?_)
  have hV := hT.1.2.2.1
  have v8 := hV.2.2.2.2.2.2.2.2.1
  rw [xj_eq, c_hasVan hT.1.1 hV h1 h2]
  have hin : ∀ s1 : xS, s1 185 = β → m_X13_isIn (zI p) 0 ((zI (s1 185 (8 : Int).toNat)) - 1) = if 0 ≤ p ∧ p < β 8 then 1 else 0 := fun s1 hs => by
    rw [hs, tn_lit.2.2.2.2.2.2.2.2.1, zI_of h1 h2, zI_of (n := β 8) (by omega) (by omega), r_isIn (by omega) (by omega) (by omega) (by omega) (by omega) (by omega)]
    by_cases q : 0 ≤ p ∧ p < β 8
    · rw [if_pos q, if_pos (by omega)]
    · rw [if_neg q, if_neg (by omega)]
  by_cases c0 : 0 ≤ p ∧ p < β 8
  · obtain ⟨v, rfl⟩ : ∃ v : Nat, p = (v : Int) := ⟨p.toNat, by omega⟩
    rw [if_pos c0, if_neg (by omega)]
    refine OK_bind (c_bestPlan hT h8 hn) (fun τ h => ?_)
    obtain ⟨hTt, hPB, hfr⟩ := h
    obtain ⟨hP, hP2, f1, f2, f3, f4⟩ := PB_facts hTt h60 hf
    obtain ⟨p1, p2, ⟨⟨p3, p4⟩, p5⟩⟩ := hPB
    have hg := qG_128 (P := PX β β 0 (σ 184 6) 1439) (qB (PX β β 0 (σ 184 6) 1439)).toNat v
    have hd0 := dpF_bd (m := qG (PX β β 0 (σ 184 6) 1439) (qB (PX β β 0 (σ 184 6) 1439)).toNat v) (rd := rdC 0 β (Mf (prm β)).1 (β 9).toNat) (fun s hs => (hP2.2.2.2.2.1 s hs).2.2)
    have hdb : -1 ≤ dpV β (σ 184 6) v ∧ dpV β (σ 184 6) v ≤ 600000 := by
      unfold dpV
      split
      · omega
      · split <;> omega
    have hC : m_X8_departureOf n 139 (v : Int) τ = some (dpV β (σ 184 6) v) := by
      unfold m_X8_departureOf dpV
      rw [xj_eq, xj_eq]
      by_cases c : qB (PX β β 0 (σ 184 6) 1439) = -1
      · rw [if_pos c] at p3
        simp only [p3]
        rw [zI_of (n := 0) (by omega) (by omega), if_pos rfl, if_pos c]
      · rw [if_neg c] at p3
        have e10 := (p4 c).2 v (by omega)
        simp only [p3]
        rw [zI_of (n := 1) (by omega) (by omega), if_neg (by omega), if_neg c, zI_of h1 h2, xck_of (by omega) (by omega)]
        simp only [tn_cast, e10]
        rw [zI_of (n := (qG (PX β β 0 (σ 184 6) 1439) (qB (PX β β 0 (σ 184 6) 1439)).toNat v : Int)) (by omega) (by omega)]
        by_cases c2 : qG (PX β β 0 (σ 184 6) 1439) (qB (PX β β 0 (σ 184 6) 1439)).toNat v = 0
        · rw [if_pos (by omega), if_pos c2]
        · obtain ⟨s, hs⟩ := Nat.exists_testBit_of_ne_zero c2
          have hs7 := bit_lt (S := 7) (show _ < 2 ^ 7 from hg) hs
          have hdp := dp_same hV h60 hf.1 (qG_sb (P := PX β β 0 (σ 184 6) 1439) (qB (PX β β 0 (σ 184 6) 1439)).toNat v) hs7 hs
          rw [if_neg (by omega), if_neg c2, xck_of (by omega) (by omega), c_departureFor (rd := rdC (σ 184 6) β (Mf (prm β)).1 (β 9).toNat) (fun s hs => (p1 s hs).2.2.1) (fun s hs => (p1 s hs).2.2.2.2.2) hg hn, bind_some', hdp]
    rw [hC, bind_some']
    refine OK_some ⟨by (try dsimp only); omega, hfr, hTt, fun s1 hI h6 hs => ?_⟩
    try dsimp only
    rw [xck_of (by omega) (by omega), xj_eq, xj_eq, hin s1 hs, if_pos c0, if_neg (by omega)]
    refine OK_xbS (r_hasPlan hI h6 hf hn) (fun v' s4 h => ?_)
    obtain ⟨w1, w2, w3, w4, w5⟩ := h
    dsimp only at w1 w2 w3 w4 w5
    rw [w1]
    by_cases c : qB (PX β β 0 (σ 184 6) 1439) = -1
    · rw [if_pos c, zI_of (by omega) (by omega), if_pos rfl]
      exact OK_some ⟨by unfold dpV; rw [if_pos c], w5⟩
    · obtain ⟨y1, y2, y3, y4, y5⟩ := w4 c
      have e11 := y3 v (by omega)
      have e6 : s4 184 6 = σ 184 6 := by rw [w5 _ _ (by omega) (by omega)]; exact h6
      have eg : qG (PX β β 0 0 1000000) (qB (PX β β 0 (σ 184 6) 1439)).toNat v = qG (PX β β 0 (σ 184 6) 1439) (qB (PX β β 0 (σ 184 6) 1439)).toNat v := rfl
      rw [eg] at e11
      rw [if_neg c, zI_of (n := 1) (by omega) (by omega), if_neg (by omega), zI_of h1 h2, xck_of (by omega) (by omega), tn_cast]
      simp only [e11]
      rw [zI_of (n := (qG (PX β β 0 (σ 184 6) 1439) (qB (PX β β 0 (σ 184 6) 1439)).toNat v : Int)) (by omega) (by omega)]
      by_cases c2 : qG (PX β β 0 (σ 184 6) 1439) (qB (PX β β 0 (σ 184 6) 1439)).toNat v = 0
      · rw [if_pos (by omega)]
        exact OK_some ⟨by unfold dpV; rw [if_neg c, if_pos c2], w5⟩
      · have hlv := r_leaves (rd := rdC 0 β (Mf (prm β)).1 (β 9).toNat) (m := qG (PX β β 0 (σ 184 6) 1439) (qB (PX β β 0 (σ 184 6) 1439)).toNat v) y5.2.2.1 hP2.2.1 (qG_lt hP _ v) (fun s hs => (hP2.2.2.2.2.1 s hs).2.2) (show v < 3 by omega) e11 hn
        rw [if_neg (by omega), hlv, bind_some', e6]
        exact OK_some ⟨by unfold dpV; rw [if_neg c, if_neg c2], w5⟩
  · rw [if_neg c0, if_pos rfl]
    refine OK_some ⟨by (try dsimp only); omega, fun _ _ _ _ => rfl, hT, fun s1 hI h6 hs => ?_⟩
    try dsimp only
    rw [xck_of (by omega) (by omega), xj_eq, xj_eq, hin s1 hs, if_neg c0, if_pos rfl]
    exact OK_some ⟨rfl, fun _ _ _ _ => rfl⟩
end PLJ
