/-! questions of both about the best plan: stale orders -/
section PLK
variable {σ τ : xS} {k n i : Nat} {β γ : Nat → Int} {e f : Int}
def stO (β : Nat → Int) (f : Int) (o : Nat) : Int := if oF β o 4 = 0 ∧ (srvF β (Mf (prm β)).1).testBit (oF β o 0).toNat = true ∧ dF β (oF β o 1).toNat 8 < qAr (PX β β 0 0 1000000) (qB (PX β β 0 f 1439)).toNat (oF β o 0).toNat (qA (PX β β 0 0 1000000) (qB (PX β β 0 f 1439)).toNat (oF β o 0).toNat) - takF β (Mf (prm β)).1 (oF β o 1).toNat (aheadF β o) then 1 else 0
theorem stale_facts (hV : V β) (h60 : allF β ≤ 60) {o : Nat} (ho : (o : Int) < β 9) (c4 : oF β o 4 = 0) (t : (srvF β (Mf (prm β)).1).testBit (oF β o 0).toNat = true) :
    aheadF β o < cbF β (Mf (prm β)).1 (oF β o 1).toNat (bl β).length * dF β (oF β o 1).toNat 7 ∧ 0 ≤ takF β (Mf (prm β)).1 (oF β o 1).toNat (aheadF β o) ∧ takF β (Mf (prm β)).1 (oF β o 1).toNat (aheadF β o) ≤ 125000 := by
  have hP := prm_V hV h60
  have hF := FN_Mf hV h60
  have v4 := hV.2.2.2.2.1
  have v6 := hV.2.2.2.2.2.2.1
  have vr := hV.2.2.2.2.2.2.2.2.2.2.2.2.2.2 o ho
  have vd := hV.2.2.2.2.2.2.2.2.2.2.1 (oF β o 1).toNat (by omega)
  have hah := aheadF_bd hV o
  have hmt : mtB β (oF β o 0).toNat o = true := by
    unfold mtB
    rw [decide_eq_true c4, decide_eq_true (show oF β o 0 = ((oF β o 0).toNat : Int) by omega)]
    rfl
  have hr := (srv_bit (by omega) t).2 o (by omega) hmt
  have hlt : aheadF β o + oF β o 2 - 1 < cbF β (Mf (prm β)).1 (oF β o 1).toNat (bl β).length * dF β (oF β o 1).toNat 7 := by
    rcases Int.lt_or_le (aheadF β o + oF β o 2 - 1) (cbF β (Mf (prm β)).1 (oF β o 1).toNat (bl β).length * dF β (oF β o 1).toNat 7) with z | z
    · exact z
    · refine absurd ?_ hr
      unfold rdyF
      rw [if_pos c4, if_pos (takF_none (by omega) z)]
  have hlt2 : aheadF β o < cbF β (Mf (prm β)).1 (oF β o 1).toNat (bl β).length * dF β (oF β o 1).toNat 7 := by omega
  have h := (takF_spec hP (Mf_I hV h60) hF (d := (oF β o 1).toNat) (l := aheadF β o) hah.1 (by omega) hlt2).1
  exact ⟨hlt2, h.1, h.2⟩
theorem stO_sum (β : Nat → Int) (f : Int) {i : Nat} (hi : i ≤ 24) : 0 ≤ sumTo i (stO β f) ∧ sumTo i (stO β f) ≤ 24 := by
  have := sumTo_bd (n := i) (f := stO β f) (lo := 0) (hi := 1) (fun o _ => by unfold stO; split <;> omega)
  omega
theorem c_staleTotal (hT : TP τ β) (h8 : τ 0 8 = 1) (h60 : allF β ≤ 60) (hf : 0 ≤ f ∧ f ≤ 1439) (h6 : τ 184 6 = f) (hP : BP τ 139 (PX β β 0 f 1439)) (c : qB (PX β β 0 f 1439) ≠ -1) (hn : 4000000 ≤ n) : m_X8_staleTotal n 139 (bkA (τ 0 3)) 118 τ = some (sumTo (β 9).toNat (stO β f)) := by
  have hT' := hT
  obtain ⟨⟨hB, hβ, hV, h4⟩, hR, hp, h50⟩ := hT
  have hRF : RF τ 118 β f := by
    rcases h4 with z | z
    · omega
    · rw [← h6]; exact z.2.2.2.2
  have hB' := hB
  obtain ⟨b0, b1, b2, b3, b4, b5, b6, b7, b8, b9, bd, bo, bs, bv, br⟩ := hB
  have v4 := hV.2.2.2.2.1
  have v6 := hV.2.2.2.2.2.2.1
  have v9 := hV.2.2.2.2.2.2.2.2.2.1
  obtain ⟨hPP, hP2, f1, f2, f3, f4⟩ := PB_facts hT' h60 hf
  have hv := best_v hT' h60 hf c
  unfold m_X8_staleTotal
  refine loop_eq (β 9).toNat (fun i => (sumTo i (stO β f), (i : Int))) rfl ?_ ?_ (by omega)
  · intro i hi rec
    have hi' : (i : Int) < β 9 := by omega
    have vr := hV.2.2.2.2.2.2.2.2.2.2.2.2.2.2 i hi'
    have hbri := br i hi'
    have e20 := (hRF.2.2 i hi').2
    dsimp only
    rw [sumTo]
    simp only [b9]
    rw [zI_of (n := β 9) (by omega) (by omega), zI_of (n := (i : Int)) (by omega) (by omega), if_neg (by omega), xck_of (by omega) (by omega), c_hasOrderN hB' hV hi', bind_some', xj_eq]
    by_cases c4 : oF β i 4 = 0
    · obtain ⟨s, hs⟩ : ∃ s : Nat, oF β i 0 = (s : Int) := ⟨(oF β i 0).toNat, by omega⟩
      obtain ⟨d, hd⟩ : ∃ d : Nat, oF β i 1 = (d : Int) := ⟨(oF β i 1).toNat, by omega⟩
      have vd := hV.2.2.2.2.2.2.2.2.2.2.1 d (by omega)
      have e0 : τ (bkA (τ 0 3) + 14 + i) 0 = (s : Int) := by rw [hbri 0 (by omega)]; exact hs
      have e1 : τ (bkA (τ 0 3) + 14 + i) 1 = (d : Int) := by rw [hbri 1 (by omega)]; exact hd
      have ek : τ (bkA (τ 0 3) + 2 + d) 8 = dF β d 8 := bd d (by omega) 8 (by omega)
      have hvb := vnV_bd hPP s
      rw [if_pos c4, zI_of (n := 1) (by omega) (by omega), if_neg (by omega)]
      simp only [tn_cast, e0, e1]
      rw [c_vanFor hP hPP (by omega) hn, bind_some', zI_of (n := vnV β f s) (by omega) (by omega)]
      by_cases t : (srvF β (Mf (prm β)).1).testBit s = true
      · have hvn : vnV β f s ≠ -1 := by
          unfold vnV
          rw [if_neg c, if_pos t]
          omega
        obtain ⟨k1, k2, k3⟩ := stale_facts hV h60 hi' c4 (by rw [hs, tn_cast]; exact t)
        have har := c_arrives hP hT' h60 hf c (show s < 7 by omega) t hv
        have hab := qAr_bd hP2 (qB (PX β β 0 f 1439)).toNat s (qA (PX β β 0 0 1000000) (qB (PX β β 0 f 1439)).toNat s)
        have hold : τ (118 + 20) i = takF β (Mf (prm β)).1 (oF β i 1).toNat (aheadF β i) + f := by
          rw [e20]
          unfold shF oldF
          rw [if_pos c4, if_neg (by omega)]
        rw [hd, tn_cast] at k2 k3 hold
        have est : stO β f i = if dF β d 8 < qAr (PX β β 0 0 1000000) (qB (PX β β 0 f 1439)).toNat s (qA (PX β β 0 0 1000000) (qB (PX β β 0 f 1439)).toNat s) - takF β (Mf (prm β)).1 d (aheadF β i) then 1 else 0 := by
          unfold stO
          rw [hs, hd, tn_cast, tn_cast]
          by_cases q : dF β d 8 < qAr (PX β β 0 0 1000000) (qB (PX β β 0 f 1439)).toNat s (qA (PX β β 0 0 1000000) (qB (PX β β 0 f 1439)).toNat s) - takF β (Mf (prm β)).1 d (aheadF β i)
          · rw [if_pos q, if_pos ⟨c4, t, q⟩]
          · rw [if_neg q, if_neg (fun z => q z.2.2)]
        rw [est]
        generalize qAr (PX β β 0 0 1000000) (qB (PX β β 0 f 1439)).toNat s (qA (PX β β 0 0 1000000) (qB (PX β β 0 f 1439)).toNat s) = A at har hab
        generalize takF β (Mf (prm β)).1 d (aheadF β i) = T at k2 k3 hold
        rw [if_neg hvn, zI_of (n := (s : Int)) (by omega) (by omega), xck_of (by omega) (by omega), xck_of (by omega) (by omega), xlet_eq, zI_of (n := (d : Int)) (by omega) (by omega), xck_of (by omega) (by omega)]
        have har' : τ (139 + 11) s = f + A := har
        simp only [tn_cast, har', hold, ek]
        rw [zI_of (n := f + A - (T + f)) (by omega) (by omega), zI_of (n := dF β d 8) (by omega) (by omega), xlet_eq]
        by_cases q : dF β d 8 < A - T
        · rw [if_pos q, if_neg (by omega)]
          rfl
        · rw [if_neg q, if_pos (by omega)]
          rfl
      · have hvn : vnV β f s = -1 := by
          unfold vnV
          rw [if_neg c, if_neg t]
        have est : stO β f i = 0 := by
          unfold stO
          rw [hs, tn_cast, if_neg (fun z => t z.2.1)]
        rw [if_pos hvn, est, Int.add_zero]
        rfl
    · have est : stO β f i = 0 := by
        unfold stO
        rw [if_neg (fun z => c4 z.1)]
      rw [if_neg c4, zI_of (n := 0) (by omega) (by omega), if_pos rfl, est, Int.add_zero]
      rfl
  · intro rec
    dsimp only
    simp only [b9]
    rw [zI_of (n := β 9) (by omega) (by omega), zI_of (n := (((β 9).toNat : Nat) : Int)) (by omega) (by omega), if_pos (by omega)]
theorem q_staleOrders (hT : TP σ β) (hn : 4000000 ≤ n) : BOTH σ β (m_X12_staleOrders n σ) (m_X13_staleOrders n) := by
  unfold m_X12_staleOrders m_X13_staleOrders
  refine plan_ask hT hn (K := fun σ => (m_X12_bestPlan n σ).bind fun s2 => xj (fun (q6 : Int) => some (q6, s2)) fun J4 => if (zI (s2 139 11)) = 0 then J4 (-1) else (m_X8_staleTotal n 139 (bkA (s2 0 3)) 118 s2).bind fun v8 => J4 v8) (fun h8 h60 hf => ?_)
  have hV := hT.1.2.2.1
  have v4 := hV.2.2.2.2.1
  have v6 := hV.2.2.2.2.2.2.1
  have v9 := hV.2.2.2.2.2.2.2.2.2.1
  refine OK_bind (c_bestPlan hT h8 hn) (fun τ h => ?_)
  obtain ⟨hTt, hPB, hfr⟩ := h
  obtain ⟨hP, hP2, f1, f2, f3, f4⟩ := PB_facts hTt h60 hf
  have hsb := stO_sum β (σ 184 6) (i := (β 9).toNat) (by omega)
  have hRi : ∀ s, NI s 185 β β 0 → s 184 6 = σ 184 6 → OK (xbS (m_X13_hasPlan n s) fun v5 s4 => if (zI v5) = 0 then some ((-1), s4) else loopF (fun rec8 (t7 : Int × Int) => xck 9 289 <| if (zI (s4 185 (9 : Int).toNat)) ≤ (zI t7.2) then some (t7.1, s4) else (m_X13_isMeant 185 t7.2 s4).bind fun v11 => xj (fun (q15 : Int) => xlet (t7.2 + 1) fun v16 => rec8 (q15, v16)) fun J13 => if (zI v11) = 0 then J13 t7.1 else (m_X13_order 185 t7.2 0 s4).bind fun v18 => if (m_X13_has (s4 184 46) v18) = 0 then J13 t7.1 else (m_X13_order 185 t7.2 1 s4).bind fun v20 => (m_X13_order 185 t7.2 0 s4).bind fun v21 => xck (zI v21) 7 <| (m_X13_givenAhead n 185 t7.2 s4).bind fun v22 => (m_X13_outAt n 185 v20 v22 s4).bind fun v23 => (m_X13_dough 185 v20 8 s4).bind fun v24 => xlet (if (zI ((s4 213 (zI v21).toNat) - v23)) ≤ (zI v24) then 0 else 1) fun v25 => xlet (t7.1 + v25) fun v26 => J13 v26) n (0, 0)) (fun y => y.1 = (if qB (PX β β 0 (σ 184 6) 1439) = -1 then -1 else sumTo (β 9).toNat (stO β (σ 184 6))) ∧ plf s y.2) := fun s hI h6 => by
    refine OK_xbS (r_hasPlan hI h6 hf hn) (fun v s4 h => ?_)
    obtain ⟨w1, w2, w3, w4, w5⟩ := h
    dsimp only at w1 w2 w3 w4 w5
    rw [w1]
    by_cases c : qB (PX β β 0 (σ 184 6) 1439) = -1
    · rw [if_pos c, zI_of (by omega) (by omega), if_pos rfl, if_pos c]
      exact OK_some ⟨rfl, w5⟩
    · obtain ⟨y1, y2, y3, y4, y5⟩ := w4 c
      have hI4 := NI_same hI w5
      obtain ⟨-, hs4, -, -, -, -, hG4, -⟩ := hI4
      have hsl := srv_lt (β := β) (N := (Mf (prm β)).1)
      rw [if_neg c, zI_of (n := 1) (by omega) (by omega), if_neg (by omega), if_neg c]
      refine OK_eq (r := (sumTo (β 9).toNat (stO β (σ 184 6)), s4)) ?_ ⟨rfl, w5⟩
      refine loop_eq (β 9).toNat (fun i => (sumTo i (stO β (σ 184 6)), (i : Int))) rfl ?_ ?_ (by omega)
      · intro i hi rec
        have hi' : (i : Int) < β 9 := by omega
        have vr := hV.2.2.2.2.2.2.2.2.2.2.2.2.2.2 i hi'
        have e9 : s4 185 (9 : Int).toNat = β 9 := by rw [hs4]; rfl
        have hme := r_isMeant (σ := s4) (k := 185) (i := i) (by rw [hs4]; exact hV) (by rw [hs4]; exact hi')
        have ho0 := r_order0 (σ := s4) (k := 185) (i := i) (by omega)
        have ho1 := r_order1 (σ := s4) (k := 185) (i := i) (by omega)
        have hga := r_givenAhead (σ := s4) (k := 185) (n := n) (j := i) (by rw [hs4]; exact hV) hn (by rw [hs4]; exact hi')
        rw [hs4] at hme ho0 ho1 hga
        dsimp only
        rw [sumTo, xck_of (by omega) (by omega)]
        simp only [e9]
        rw [zI_of (n := β 9) (by omega) (by omega), zI_of (n := (i : Int)) (by omega) (by omega), if_neg (by omega), hme, bind_some', xj_eq]
        by_cases c4 : oF β i 4 = 0
        · obtain ⟨sh, hsh⟩ : ∃ sh : Nat, oF β i 0 = (sh : Int) := ⟨(oF β i 0).toNat, by omega⟩
          obtain ⟨d, hd⟩ : ∃ d : Nat, oF β i 1 = (d : Int) := ⟨(oF β i 1).toNat, by omega⟩
          have vd := hV.2.2.2.2.2.2.2.2.2.2.1 d (by omega)
          rw [hsh] at ho0
          rw [hd] at ho1
          rw [if_pos c4, zI_of (n := 1) (by omega) (by omega), if_neg (by omega), ho0, bind_some']
          simp only [w2]
          rw [has_of hsl (by omega)]
          by_cases t : (srvF β (Mf (prm β)).1).testBit sh = true
          · obtain ⟨k1, k2, k3⟩ := stale_facts hV h60 hi' c4 (by rw [hsh, tn_cast]; exact t)
            have har := y2 sh (by omega) t
            have hab := qAr_bd hP2 (qB (PX β β 0 (σ 184 6) 1439)).toNat sh (qA (PX β β 0 0 1000000) (qB (PX β β 0 (σ 184 6) 1439)).toNat sh)
            rw [hd, tn_cast] at k1 k2 k3
            have hd7 := r_dough7 (σ := s4) (k := 185) (i := d) (by omega)
            have hd8 := r_dough8 (σ := s4) (k := 185) (i := d) (by omega)
            rw [hs4] at hd7 hd8
            have hah := aheadF_bd hV i
            have hoa := r_outAt2 (k := 185) hV h60 hG4 hn (d := d) (by omega) hd7 (l := aheadF β i) (by omega) k1
            have est : stO β (σ 184 6) i = if dF β d 8 < qAr (PX β β 0 0 1000000) (qB (PX β β 0 (σ 184 6) 1439)).toNat sh (qA (PX β β 0 0 1000000) (qB (PX β β 0 (σ 184 6) 1439)).toNat sh) - takF β (Mf (prm β)).1 d (aheadF β i) then 1 else 0 := by
              unfold stO
              rw [hsh, hd, tn_cast, tn_cast]
              by_cases q : dF β d 8 < qAr (PX β β 0 0 1000000) (qB (PX β β 0 (σ 184 6) 1439)).toNat sh (qA (PX β β 0 0 1000000) (qB (PX β β 0 (σ 184 6) 1439)).toNat sh) - takF β (Mf (prm β)).1 d (aheadF β i)
              · rw [if_pos q, if_pos ⟨c4, t, q⟩]
              · rw [if_neg q, if_neg (fun z => q z.2.2)]
            rw [est]
            generalize qAr (PX β β 0 0 1000000) (qB (PX β β 0 (σ 184 6) 1439)).toNat sh (qA (PX β β 0 0 1000000) (qB (PX β β 0 (σ 184 6) 1439)).toNat sh) = A at har hab
            generalize takF β (Mf (prm β)).1 d (aheadF β i) = T at k2 k3 hoa
            rw [if_pos t, if_neg (by omega), ho1, bind_some', bind_some', zI_of (n := (sh : Int)) (by omega) (by omega), xck_of (by omega) (by omega), hga, bind_some', hoa, bind_some', hd8, bind_some']
            simp only [tn_cast, har]
            rw [zI_of (n := A - T) (by omega) (by omega), zI_of (n := dF β d 8) (by omega) (by omega), xlet_eq]
            by_cases q : dF β d 8 < A - T
            · rw [if_pos q, if_neg (by omega)]
              rfl
            · rw [if_neg q, if_pos (by omega)]
              rfl
          · have est : stO β (σ 184 6) i = 0 := by
              unfold stO
              rw [hsh, tn_cast, if_neg (fun z => t z.2.1)]
            rw [if_neg t, if_pos rfl, est, Int.add_zero]
            rfl
        · have est : stO β (σ 184 6) i = 0 := by
            unfold stO
            rw [if_neg (fun z => c4 z.1)]
          rw [if_neg c4, zI_of (n := 0) (by omega) (by omega), if_pos rfl, est, Int.add_zero]
          rfl
      · intro rec
        have e9 : s4 185 (9 : Int).toNat = β 9 := by rw [hs4]; rfl
        dsimp only
        rw [xck_of (by omega) (by omega)]
        simp only [e9]
        rw [zI_of (n := β 9) (by omega) (by omega), zI_of (n := (((β 9).toNat : Nat) : Int)) (by omega) (by omega), if_pos (by omega)]
  rw [xj_eq]
  have e11 := hPB.2.2.1.1
  by_cases c : qB (PX β β 0 (σ 184 6) 1439) = -1
  · rw [if_pos c] at e11
    simp only [e11]
    rw [zI_of (n := 0) (by omega) (by omega), if_pos rfl]
    refine OK_some ⟨by (try dsimp only); omega, hfr, hTt, fun s hI h6 _ => OK_mono (hRi s hI h6) fun y hy => ⟨by rw [hy.1, if_pos c], hy.2⟩⟩
  · rw [if_neg c] at e11
    simp only [e11]
    have h8t : τ 0 8 = 1 := by rw [hfr _ _ (by omega) (by omega)]; exact h8
    rw [zI_of (n := 1) (by omega) (by omega), if_neg (by omega), c_staleTotal hTt h8t h60 hf (hfr _ _ (by omega) (by omega)) hPB.2.2 c hn, bind_some']
    refine OK_some ⟨by (try dsimp only); omega, hfr, hTt, fun s hI h6 _ => OK_mono (hRi s hI h6) fun y hy => ⟨by rw [hy.1, if_neg c], hy.2⟩⟩
end PLK
