/-! changes: streets, orders -/
section TOP3
variable {σ τ s x y y0 : xS} {n m b L : Nat} {β γ δ : Nat → Int} {B : Nat → Nat → Int} {p q : Int}
theorem it10 {α : Type} {c : Prop} [Decidable c] {a b : α} : (if (if c then (1 : Int) else 0) = 0 then a else b) = if c then b else a := by
  by_cases h : c
  · rw [if_pos h, if_pos h, if_neg (by omega)]
  · rw [if_neg h, if_neg h, if_pos rfl]
theorem zI10 {c : Prop} [Decidable c] : zI (if c then (1 : Int) else 0) = if c then 1 else 0 := by
  split <;> exact zI_of (by omega) (by omega)
theorem st_fin {c : Nat} {v : Int} (hd : ∀ i, i ≠ c → δ i = β i) (h0 : δ c = v) : stI β c v = δ := by
  funext i
  by_cases d : i = c
  · rw [d, stI_eq, h0]
  · rw [stI_ne d, hd i d]
theorem q_closeStreet (h : TJ σ β L m B) (hn : 4000000 ≤ n) (h1 : -2147483648 ≤ p) (h2 : p < 2147483648) (h3 : q = 0 ∨ q = 1) : CALL (m_X12_closeStreet n p q σ) (m_X13_closeStreet n p q) := by
  have h' := h
  obtain ⟨⟨⟨tB, tβ, tV, tN⟩, tR, tP, t50⟩, h0β, ⟨i1, i2, i3, i4, i5⟩, -⟩ := h
  have hb := bk_two (σ 0 3)
  have v7 := tV.2.2.2.2.2.2.2.1
  have k5 : ∀ t : xS, (xput t 184 7 0) 185 = t 185 := fun t => xput_ne1 (by omega)
  have e74 : σ (bkA (σ 0 3) + 39) 4 = β 7 := tB.2.2.2.2.2.2.2.1
  have hst : ∀ x : xS, x 185 = β → m_X13_closeStreet n p q x = (if 0 ≤ p ∧ p < β 7 then xlet (if (zI q) = 0 then 0 else 1) fun v3 => xbS (m_X13_sets n ((86 + (4 * p)) + 3) v3 (xput x 184 7 0)) fun v5 s4 => some (1, s4) else some (0, xput x 184 7 0)) := fun x hx => by
    unfold m_X13_closeStreet
    rw [xlet_eq, xck_of (by omega) (by omega), k5, hx, show (7 : Int).toNat = 7 from rfl, zI_of (n := β 7) (by omega) (by omega), isIn_i h1 h2 (by omega) (by omega) (by omega) (by omega), it10]
    by_cases c : 0 ≤ p ∧ p < β 7
    · rw [if_pos c, if_pos (show 0 ≤ p ∧ p ≤ β 7 - 1 by omega)]
    · rw [if_neg c, if_neg (show ¬ (0 ≤ p ∧ p ≤ β 7 - 1) by omega)]
  have hno : ¬ (0 ≤ p ∧ p < β 7) → CALL (some (0, σ)) (m_X13_closeStreet n p q) := fun c => CALL_no h' (by omega) (by omega) (by rw [hst σ tβ, if_neg c])
  unfold m_X12_closeStreet
  rw [xj_eq, zI_of h1 h2]
  by_cases c1 : p < 0
  · rw [if_pos c1]
    exact hno (by omega)
  · rw [if_neg c1, e74, zI_of (n := β 7) (by omega) (by omega)]
    by_cases c2 : p < β 7
    · obtain ⟨o, rfl⟩ : ∃ o : Nat, p = (o : Int) := ⟨p.toNat, by omega⟩
      obtain ⟨v0, v1, v2, v3, v4, v5, v6, v7, v8, v9, vd, vo, vs, vv, vr⟩ := tV
      have ho4 : o < 20 := by omega
      have ov := vs o c2
      have ob := (tB.2.2.2.2.2.2.2.2.2.2.2.2.1 o c2).2.2.2
      have hd : ∀ i, i ≠ 86 + 4 * o + 3 → stI β (86 + 4 * o + 3) q i = β i := fun i hi => stI_ne hi
      have hδ0 : stI β (86 + 4 * o + 3) q (86 + 4 * o + 3) = q := stI_eq
      generalize stI β (86 + 4 * o + 3) q = δ at hd hδ0
      have ev : (if zI (σ (bkA (σ 0 3) + 39 + 4) o) = 0 then (0 : Int) else 1) = stF β o 3 := by
        rw [ob]
        rcases ov.2.2.2.2 with e | e
        · rw [e]; rfl
        · rw [e]; rfl
      have tV : V β := h'.1.1.2.2.1
      have hVd : V δ := by
        refine ⟨by rw [hd _ (by omega)]; exact v0, by rw [hd _ (by omega)]; exact v1, by rw [hd _ (by omega)]; exact v2, by rw [hd _ (by omega)]; exact v3, by rw [hd _ (by omega)]; exact v4, by rw [hd _ (by omega)]; exact v5, by rw [hd _ (by omega)]; exact v6, by rw [hd _ (by omega)]; exact v7, by rw [hd _ (by omega)]; exact v8, by rw [hd _ (by omega)]; exact v9, Vd_c vd v4.2 (fun i hi => hd i (by omega)), Vo_c vo v5.2 (fun i hi => hd i (by omega)), fun o' ho' => ?_, Vv_c vv v8.2 (fun i hi => hd i (by omega)), Vr_c vr v9.2 (fun i hi => hd i (by omega))⟩
        rw [hd 7 (by omega)] at ho'
        have oo := vs o' ho'
        have e : ∀ w, w < 3 → stF δ o' w = stF β o' w := fun w hw => hd _ (by omega)
        rw [e 0 (by omega), e 1 (by omega), e 2 (by omega), hd 6 (by omega)]
        refine ⟨oo.1, oo.2.1, oo.2.2.1, oo.2.2.2.1, ?_⟩
        by_cases d : o' = o
        · subst d
          rw [show stF δ o' 3 = q from hδ0]
          exact h3
        · rw [show stF δ o' 3 = stF β o' 3 from hd _ (by omega)]
          exact oo.2.2.2.2
      rw [if_pos c2, xck_of (by omega) (by omega), tn_cast, ev, xlet_eq]
      refine OK_bind (c_markStreet ho4 tB tV hVd (fun i hi hne => hd i hne) hδ0.symm h3 hn) fun s7 hs => ?_
      obtain ⟨sB, sR, sf⟩ := hs
      refine CALL_chg (δ := δ) (s := s7) h' hVd ⟨by rw [hd _ (by omega)]; exact h0β.1, by rw [hd _ (by omega)]; exact h0β.2.1, by rw [hd _ (by omega)]; exact h0β.2.2.1, fun o' ho' => ?_⟩ ⟨tV, h0β, Or.inr (Or.inr (Or.inl ⟨o, ho4, by rw [hd _ (by omega)]; exact c2, rfl, rfl, rfl, fun i hi hne => (hd i hne).symm⟩))⟩ sB sR sf (by omega) (by omega) (fun x x4 xβ => ?_)
      · rw [hd 5 (by omega)] at ho'
        rw [show ovF δ o' 0 = ovF β o' 0 from hd _ (by omega)]
        exact h0β.2.2.2 o' ho'
      · have eq3 : (if zI q = 0 then (0 : Int) else 1) = q := by rcases h3 with e | e <;> rw [e] <;> rfl
        rw [hst x xβ, if_pos ⟨by omega, c2⟩, eq3, xlet_eq, show (86 + 4 * (o : Int)) + 3 = ((86 + 4 * o + 3 : Nat) : Int) by omega]
        refine OK_xbS (R_sets (c := 86 + 4 * o + 3) (v := q) i1 x4 xβ (by omega) hn) fun v s hz => ?_
        obtain ⟨-, y0, w1, w2, w3⟩ := hz
        exact OK_some ⟨rfl, y0, w1, w2, by rw [← st_fin hd hδ0]; exact w3⟩
    · rw [if_neg c2]
      exact hno (by omega)
theorem r_isOrderB {s : xS} (hs : s 185 = β) (hV : V β) (h1 : -2147483648 ≤ p) (h2 : p < 2147483648) : m_X13_isOrder p s = some (if 0 ≤ p ∧ p < β 9 ∧ oF β p.toNat 4 = 0 then 1 else 0) := by
  have v9 := hV.2.2.2.2.2.2.2.2.2.1
  unfold m_X13_isOrder
  simp only [xj_eq]
  rw [xck_of (by omega) (by omega), hs, show (9 : Int).toNat = 9 from rfl, zI_of (n := β 9) (by omega) (by omega), isIn_i h1 h2 (by omega) (by omega) (by omega) (by omega), it10]
  by_cases c : 0 ≤ p ∧ p < β 9
  · obtain ⟨o, rfl⟩ : ∃ o : Nat, p = (o : Int) := ⟨p.toNat, by omega⟩
    have hm := r_isMeant (σ := s) (k := 185) (i := o) (by rw [hs]; exact hV) (by rw [hs]; exact c.2)
    rw [hs] at hm
    rw [if_pos (show 0 ≤ (o : Int) ∧ (o : Int) ≤ β 9 - 1 by omega), hm, bind_some', tn_cast, zI10, it10]
    by_cases d : oF β o 4 = 0
    · rw [if_pos d, if_pos ⟨c.1, c.2, d⟩]
      rfl
    · rw [if_neg d, if_neg (fun hh => d hh.2.2)]
      rfl
  · rw [if_neg (show ¬ (0 ≤ p ∧ p ≤ β 9 - 1) by omega), if_neg (fun hh => c ⟨hh.1, hh.2.1⟩)]
    rfl
/-- an order's field changes -/
theorem V_order {o w : Nat} {v : Int} (hV : V β) (hw : (w = 3 ∧ 0 ≤ v ∧ v ≤ 1439) ∨ (w = 4 ∧ (v = 0 ∨ v = 1))) (hd : ∀ i, i ≠ 169 + 5 * o + w → δ i = β i) (h0 : δ (169 + 5 * o + w) = v) : V δ := by
  obtain ⟨v0, v1, v2, v3, v4, v5, v6, v7, v8, v9, vd, vo, vs, vv, vr⟩ := hV
  refine ⟨by rw [hd _ (by omega)]; exact v0, by rw [hd _ (by omega)]; exact v1, by rw [hd _ (by omega)]; exact v2, by rw [hd _ (by omega)]; exact v3, by rw [hd _ (by omega)]; exact v4, by rw [hd _ (by omega)]; exact v5, by rw [hd _ (by omega)]; exact v6, by rw [hd _ (by omega)]; exact v7, by rw [hd _ (by omega)]; exact v8, by rw [hd _ (by omega)]; exact v9, Vd_c vd v4.2 (fun i hi => hd i (by omega)), Vo_c vo v5.2 (fun i hi => hd i (by omega)), Vs_c vs v7.2 (fun i hi => hd i (by omega)), Vv_c vv v8.2 (fun i hi => hd i (by omega)), fun o' ho' => ?_⟩
  rw [hd 9 (by omega)] at ho'
  have oo := vr o' ho'
  have e : ∀ w, w < 3 → oF δ o' w = oF β o' w := fun w hw => hd _ (by omega)
  rw [e 0 (by omega), e 1 (by omega), e 2 (by omega), hd 6 (by omega), hd 4 (by omega)]
  refine ⟨oo.1, oo.2.1, oo.2.2.1, ?_, ?_⟩
  · by_cases d : o' = o ∧ w = 3
    · obtain ⟨rfl, rfl⟩ := d
      rw [show oF δ o' 3 = v from h0]
      omega
    · rw [show oF δ o' 3 = oF β o' 3 from hd _ (by omega)]
      exact oo.2.2.2.1
  · by_cases d : o' = o ∧ w = 4
    · obtain ⟨rfl, rfl⟩ := d
      rw [show oF δ o' 4 = v from h0]
      omega
    · rw [show oF δ o' 4 = oF β o' 4 from hd _ (by omega)]
      exact oo.2.2.2.2
theorem V0_order {c : Nat} (h : V0 β) (hV : V β) (hc : 169 ≤ c) (hd : ∀ i, i ≠ c → δ i = β i) : V0 δ := by
  have v5 := hV.2.2.2.2.2.1
  refine ⟨by rw [hd _ (by omega)]; exact h.1, by rw [hd _ (by omega)]; exact h.2.1, by rw [hd _ (by omega)]; exact h.2.2.1, fun o' ho' => ?_⟩
  rw [hd 5 (by omega)] at ho'
  rw [show ovF δ o' 0 = ovF β o' 0 from hd _ (by omega)]
  exact h.2.2.2 o' ho'
theorem q_cancelOrder (h : TJ σ β L m B) (hn : 4000000 ≤ n) (h1 : -2147483648 ≤ p) (h2 : p < 2147483648) : CALL (m_X12_cancelOrder p σ) (m_X13_cancelOrder n p) := by
  have h' := h
  obtain ⟨⟨⟨tB, tβ, tV, tN⟩, tR, tP, t50⟩, h0β, ⟨i1, i2, i3, i4, i5⟩, -⟩ := h
  have hb := bk_two (σ 0 3)
  have v9 := tV.2.2.2.2.2.2.2.2.2.1
  have k5 : ∀ t : xS, (xput t 184 7 0) 185 = t 185 := fun t => xput_ne1 (by omega)
  unfold m_X12_cancelOrder
  rw [c_hasOrder tB tV h1 h2, bind_some']
  by_cases c : 0 ≤ p ∧ p < β 9 ∧ oF β p.toNat 4 = 0
  · have c' := c
    obtain ⟨o, rfl⟩ : ∃ o : Nat, p = (o : Int) := ⟨p.toNat, by omega⟩
    rw [tn_cast] at c
    have ho4 : o < 24 := by omega
    have hd : ∀ i, i ≠ 169 + 5 * o + 4 → stI β (169 + 5 * o + 4) 1 i = β i := fun i hi => stI_ne hi
    have hδ0 : stI β (169 + 5 * o + 4) 1 (169 + 5 * o + 4) = 1 := stI_eq
    generalize stI β (169 + 5 * o + 4) 1 = δ at hd hδ0
    have hVd : V δ := V_order tV (Or.inr ⟨rfl, Or.inr rfl⟩) hd hδ0
    rw [if_pos c', zI_of (n := 1) (by omega) (by omega), if_neg (by omega), zI_of (n := (o : Int)) (by omega) (by omega), xck_of (by omega) (by omega), tn_cast, xlet_eq]
    refine CALL_chg (δ := δ) h' hVd (V0_order h0β tV (by omega) hd) ⟨tV, h0β, Or.inr (Or.inr (Or.inr (Or.inr (Or.inl ⟨o, ho4, by rw [hd _ (by omega)]; exact c.2.1, rfl, rfl, rfl, c.2.2, fun i hi hne => (hd i hne).symm⟩))))⟩ (Bk_order ho4 (by omega) tB tV (fun i hi hne => hd i hne) (fun k j c1 c2 c3 => xput_ne c3) (by rw [xput_eq]; exact hδ0.symm)) (RD_same (RD_congr tR tV (fun i hi hh => hd i (by omega))) (fun a j c1 c2 => xput_ne (by omega))) (fun k j hk => xput_ne (by omega)) (by omega) (by omega) (fun x x4 xβ => ?_)
    unfold m_X13_cancelOrder
    rw [xlet_eq, r_isOrderB (by rw [k5]; exact xβ) tV h1 h2, bind_some', if_pos c', zI_of (n := 1) (by omega) (by omega), if_neg (by omega), show (169 + 5 * (o : Int)) + 4 = ((169 + 5 * o + 4 : Nat) : Int) by omega]
    refine OK_xbS (R_sets (c := 169 + 5 * o + 4) (v := 1) i1 x4 xβ (by omega) hn) fun v s hz => ?_
    obtain ⟨-, y0, w1, w2, w3⟩ := hz
    exact OK_some ⟨rfl, y0, w1, w2, by rw [← st_fin hd hδ0]; exact w3⟩
  · rw [if_neg c, zI_of (n := 0) (by omega) (by omega), if_pos rfl]
    exact CALL_no h' (by omega) (by omega) (by
      unfold m_X13_cancelOrder
      rw [xlet_eq, r_isOrderB (by rw [k5]; exact tβ) tV h1 h2, bind_some', if_neg c, zI_of (n := 0) (by omega) (by omega), if_pos rfl])
theorem q_moveOrder (h : TJ σ β L m B) (hn : 4000000 ≤ n) (h1 : -2147483648 ≤ p) (h2 : p < 2147483648) (h3 : -2147483648 ≤ q) (h4 : q < 2147483648) : CALL (m_X12_moveOrder p q σ) (m_X13_moveOrder n p q) := by
  have h' := h
  obtain ⟨⟨⟨tB, tβ, tV, tN⟩, tR, tP, t50⟩, h0β, ⟨i1, i2, i3, i4, i5⟩, -⟩ := h
  have hb := bk_two (σ 0 3)
  have v9 := tV.2.2.2.2.2.2.2.2.2.1
  have k5 : ∀ t : xS, (xput t 184 7 0) 185 = t 185 := fun t => xput_ne1 (by omega)
  have hst : ∀ x : xS, x 185 = β → m_X13_moveOrder n p q x = (if (0 ≤ p ∧ p < β 9 ∧ oF β p.toNat 4 = 0) ∧ (0 ≤ q ∧ q ≤ 1439) then xbS (m_X13_sets n ((169 + (5 * p)) + 3) q (xput x 184 7 0)) fun v16 s15 => some (v16, s15) else some (-1, xput x 184 7 0)) := fun x hx => by
    unfold m_X13_moveOrder
    simp only [xj_eq]
    rw [xlet_eq, r_isOrderB (by rw [k5]; exact hx) tV h1 h2, bind_some', isIn_i h3 h4 (by omega) (by omega) (by omega) (by omega), zI10, it10, it10]
    by_cases c : 0 ≤ p ∧ p < β 9 ∧ oF β p.toNat 4 = 0
    · by_cases d : 0 ≤ q ∧ q ≤ 1439
      · rw [if_pos c, if_pos d, if_pos ⟨c, d⟩]
      · rw [if_pos c, if_neg d, if_neg (fun hh => d hh.2)]
    · rw [if_neg c, if_neg (fun hh => c hh.1)]
  have hno : ¬ ((0 ≤ p ∧ p < β 9 ∧ oF β p.toNat 4 = 0) ∧ (0 ≤ q ∧ q ≤ 1439)) → CALL (some (-1, σ)) (m_X13_moveOrder n p q) := fun c => CALL_no h' (by omega) (by omega) (by rw [hst σ tβ, if_neg c])
  unfold m_X12_moveOrder
  rw [c_hasOrder tB tV h1 h2, bind_some', xj_eq, zI_of h3 h4]
  by_cases c : 0 ≤ p ∧ p < β 9 ∧ oF β p.toNat 4 = 0
  · rw [if_pos c, zI_of (n := 1) (by omega) (by omega), if_neg (by omega)]
    by_cases d1 : q < 0
    · rw [if_pos d1]
      exact hno (by omega)
    · rw [if_neg d1]
      by_cases d2 : q ≤ 1439
      · have c' := c
        obtain ⟨o, rfl⟩ : ∃ o : Nat, p = (o : Int) := ⟨p.toNat, by omega⟩
        rw [tn_cast] at c
        have ho4 : o < 24 := by omega
        have hvr := (tV.2.2.2.2.2.2.2.2.2.2.2.2.2.2 o c.2.1).2.2.2.1
        have ob := tB.2.2.2.2.2.2.2.2.2.2.2.2.2.2 o c.2.1 3 (by omega)
        have hd : ∀ i, i ≠ 169 + 5 * o + 3 → stI β (169 + 5 * o + 3) q i = β i := fun i hi => stI_ne hi
        have hδ0 : stI β (169 + 5 * o + 3) q (169 + 5 * o + 3) = q := stI_eq
        generalize stI β (169 + 5 * o + 3) q = δ at hd hδ0
        have hVd : V δ := V_order tV (Or.inl ⟨rfl, by omega, d2⟩) hd hδ0
        rw [if_pos d2, zI_of (n := (o : Int)) (by omega) (by omega), xck_of (by omega) (by omega), tn_cast, ob, xlet_eq, xck_of (by omega) (by omega), xlet_eq]
        refine CALL_chg (δ := δ) h' hVd (V0_order h0β tV (by omega) hd) ⟨tV, h0β, Or.inr (Or.inr (Or.inr (Or.inr (Or.inr ⟨o, ho4, by rw [hd _ (by omega)]; exact c.2.1, rfl, rfl, rfl, fun i hi hne => (hd i hne).symm⟩))))⟩ (Bk_order ho4 (by omega) tB tV (fun i hi hne => hd i hne) (fun k j c1 c2 c3 => xput_ne c3) (by rw [xput_eq]; exact hδ0.symm)) (RD_same (RD_congr tR tV (fun i hi hh => hd i (by omega))) (fun a j c1 c2 => xput_ne (by omega))) (fun k j hk => xput_ne (by omega)) (by omega) (by omega) (fun x x4 xβ => ?_)
        rw [hst x xβ, if_pos ⟨c', by omega⟩, show (169 + 5 * (o : Int)) + 3 = ((169 + 5 * o + 3 : Nat) : Int) by omega]
        refine OK_xbS (R_sets (c := 169 + 5 * o + 3) (v := q) i1 x4 xβ (by omega) hn) fun v s hz => ?_
        obtain ⟨w0, y0, w1, w2, w3⟩ := hz
        exact OK_some ⟨w0, y0, w1, w2, by rw [← st_fin hd hδ0]; exact w3⟩
      · rw [if_neg d2]
        exact hno (by omega)
  · rw [if_neg c, zI_of (n := 0) (by omega) (by omega), if_pos rfl]
    exact hno (fun hh => c hh.1)
end TOP3
