/-! changes: room, oven, street -/
section TOP2
variable {σ τ s x y y0 : xS} {n m b L : Nat} {β γ δ : Nat → Int} {B : Nat → Nat → Int} {p q : Int}
theorem Vd_c (hV : Vd β) (v : β 4 ≤ 6) (h : ∀ i, i = 4 ∨ (10 ≤ i ∧ i < 70) → δ i = β i) : Vd δ := fun d hd => by
  rw [h 4 (by omega)] at hd
  have e : ∀ w, w < 10 → dF δ d w = dF β d w := fun w hw => h _ (by omega)
  rw [e 0 (by omega), e 1 (by omega), e 2 (by omega), e 3 (by omega), e 4 (by omega), e 5 (by omega), e 6 (by omega), e 7 (by omega), e 8 (by omega), e 9 (by omega)]
  exact hV d hd
theorem Vo_c (hV : Vo β) (v : β 5 ≤ 4) (h : ∀ i, i = 5 ∨ (70 ≤ i ∧ i < 86) → δ i = β i) : Vo δ := fun o ho => by
  rw [h 5 (by omega)] at ho
  have e : ∀ w, w < 4 → ovF δ o w = ovF β o w := fun w hw => h _ (by omega)
  rw [e 0 (by omega), e 1 (by omega), e 2 (by omega), e 3 (by omega)]
  exact hV o ho
theorem Vs_c (hV : Vs β) (v : β 7 ≤ 20) (h : ∀ i, i = 6 ∨ i = 7 ∨ (86 ≤ i ∧ i < 166) → δ i = β i) : Vs δ := fun o ho => by
  rw [h 7 (by omega)] at ho
  have e : ∀ w, w < 4 → stF δ o w = stF β o w := fun w hw => h _ (by omega)
  rw [e 0 (by omega), e 1 (by omega), e 2 (by omega), e 3 (by omega), h 6 (by omega)]
  exact hV o ho
theorem Vv_c (hV : Vv β) (v : β 8 ≤ 3) (h : ∀ i, i = 8 ∨ (166 ≤ i ∧ i < 169) → δ i = β i) : Vv δ := fun o ho => by
  rw [h 8 (by omega)] at ho
  rw [show vnF δ o = vnF β o from h _ (by omega)]
  exact hV o ho
theorem Vr_c (hV : Vr β) (v : β 9 ≤ 24) (h : ∀ i, i = 4 ∨ i = 6 ∨ i = 9 ∨ (169 ≤ i ∧ i < 289) → δ i = β i) : Vr δ := fun o ho => by
  rw [h 9 (by omega)] at ho
  have e : ∀ w, w < 5 → oF δ o w = oF β o w := fun w hw => h _ (by omega)
  rw [e 0 (by omega), e 1 (by omega), e 2 (by omega), e 3 (by omega), e 4 (by omega), h 6 (by omega), h 4 (by omega)]
  exact hV o ho
theorem TI_told (h : TJ σ β L m B) : TI (xput σ 184 7 0) := ⟨β, L, m, B, TJ_keep h (TP_rfr8 h.1 (fun a j hj => xput_ne (by omega))) (fun a j hj => xput_ne (by omega))⟩
theorem CALL_no (h : TJ σ β L m B) {v : Int} {r : xS → Option (Int × xS)} (h1 : -2147483648 ≤ v) (h2 : v < 2147483648) (hr : r σ = some (v, xput σ 184 7 0)) : CALL (some (v, σ)) r :=
  OK_some ⟨⟨h1, h2⟩, ⟨_, hr, rfl, TI_told h⟩⟩
theorem CALL_chg {K I Bv v : Int} {R : xS → Option (Int × xS)} (h : TJ σ β L m B) (hV : V δ) (h0 : V0 δ) (hE : HE K I Bv δ β) (hBs : Bk s (bkA (σ 0 3)) δ 0) (hRs : RD s (bkA (σ 0 3) + 39) δ) (hf : ∀ k j, ¬ (bkA (σ 0 3) ≤ k ∧ k < bkA (σ 0 3) + 54) → s k j = σ k j) (h1 : -2147483648 ≤ v) (h2 : v < 2147483648)
    (hr : ∀ x : xS, x 184 4 = (m : Int) → x 185 = β → OK (R x) (fun y => y.1 = v ∧ ∃ y0, RCr (xput x 184 7 0) y0 m ∧ (∀ k j, k ≠ 185 → y.2 k j = y0 k j) ∧ y.2 185 = δ)) : CALL ((m_X12_recordChange K I Bv s).bind fun s8 => some (v, s8)) R := by
  have hb := bk_two (σ 0 3)
  obtain ⟨i1, i2, i3, i4, i5⟩ := h.2.2.1
  have tβ := h.1.1.2.1
  refine OK_bind (c_record i1 (by rw [hf _ _ (by omega)]; exact i3)) fun x hz => ?_
  have hz7 := hz.2.2.2.2
  refine OK_some ⟨⟨h1, h2⟩, OK_mono (hr x (by rw [hz7 _ _ (by omega) (by omega), hf _ _ (by omega)]; exact i4) (by funext j; rw [hz7 _ _ (by omega) (by omega), hf _ _ (by omega), tβ])) fun y hy => ⟨hy.1, ?_⟩⟩
  obtain ⟨-, y0, w1, w2, w3⟩ := hy
  exact chg_TI h hV h0 hE hBs hRs hf hz w1 w2 w3
theorem R_sets {c : Nat} {v : Int} (hm : m ≤ 12) (h4 : x 184 4 = (m : Int)) (hβ : x 185 = β) (hc : c < 289) (hn : 4000000 ≤ n) : OK (m_X13_sets n (c : Int) v (xput x 184 7 0)) (fun z => z.1 = β c ∧ ∃ y0, RCr (xput x 184 7 0) y0 m ∧ (∀ k j, k ≠ 185 → z.2 k j = y0 k j) ∧ z.2 185 = stI β c v) := by
  refine OK_mono (r_sets hc hm (by rw [xput_ne (by omega)]; exact h4) hn) fun z hz => ?_
  obtain ⟨z1, y0, z2, z3⟩ := hz
  refine ⟨by rw [z1, xput_ne (by omega), hβ], y0, z2, fun k j hk => by rw [z3, xput_ne (by omega)], ?_⟩
  funext j
  rw [z3]
  have e : y0 185 j = β j := by rw [z2.2.2.2.2 _ _ (by omega) (by omega), xput_ne (by omega), hβ]
  by_cases d : j = c
  · subst d
    rw [xput_eq, stI_eq]
  · rw [xput_ne (by omega), stI_ne d, e]
theorem isIn_i {v lo hi : Int} (h1 : -2147483648 ≤ v) (h2 : v < 2147483648) (h3 : -9000000000000000000 ≤ lo) (h4 : lo < 9000000000000000000) (h5 : -9000000000000000000 ≤ hi) (h6 : hi < 9000000000000000000) : m_X13_isIn (zI v) lo hi = if lo ≤ v ∧ v ≤ hi then 1 else 0 := by
  rw [zI_of h1 h2]
  exact r_isIn (by omega) (by omega) (by omega) (by omega) (by omega) (by omega)
theorem q_setRoom (h : TJ σ β L m B) (hn : 4000000 ≤ n) (h1 : -2147483648 ≤ p) (h2 : p < 2147483648) : CALL (m_X12_setRoom p σ) (m_X13_setRoom n p) := by
  have h' := h
  obtain ⟨⟨⟨tB, tβ, tV, tN⟩, tR, tP, t50⟩, h0β, ⟨i1, i2, i3, i4, i5⟩, -⟩ := h
  have hb := bk_two (σ 0 3)
  have v0 := tV.1
  have hno : ¬ (10 ≤ p ∧ p ≤ 40) → CALL (some (-1, σ)) (m_X13_setRoom n p) := fun c => CALL_no h' (by omega) (by omega) (by
    unfold m_X13_setRoom
    rw [xlet_eq, xj_eq, isIn_i h1 h2 (by omega) (by omega) (by omega) (by omega), if_neg c, if_pos rfl])
  unfold m_X12_setRoom
  rw [xj_eq, zI_of h1 h2]
  by_cases c1 : p < 10
  · rw [if_pos c1]
    exact hno (by omega)
  · rw [if_neg c1]
    by_cases c2 : p ≤ 40
    · rw [if_pos c2, xlet_eq, xlet_eq]
      have e0 : σ (bkA (σ 0 3)) 0 = β 0 := tB.1
      rw [e0]
      have hd : ∀ i, i ≠ 0 → stI β 0 p i = β i := fun i hi => stI_ne hi
      have hδ0 : stI β 0 p 0 = p := stI_eq
      obtain ⟨-, v1, v2, v3, v4, v5, v6, v7, v8, v9, vd, vo, vs, vv, vr⟩ := tV
      have hVd : V (stI β 0 p) := ⟨by rw [hδ0]; omega, v1, v2, v3, v4, v5, v6, v7, v8, v9, Vd_c vd v4.2 (fun i hi => hd i (by omega)), Vo_c vo v5.2 (fun i hi => hd i (by omega)), Vs_c vs v7.2 (fun i hi => hd i (by omega)), Vv_c vv v8.2 (fun i hi => hd i (by omega)), Vr_c vr v9.2 (fun i hi => hd i (by omega))⟩
      have tV : V β := h'.1.1.2.2.1
      refine CALL_chg (δ := stI β 0 p) h' hVd ⟨by rw [hδ0]; exact c2, h0β.2.1, h0β.2.2.1, fun o ho => by rw [show ovF (stI β 0 p) o 0 = ovF β o 0 from hd _ (by omega)]; exact h0β.2.2.2 o (by rw [← hd 5 (by omega)]; exact ho)⟩ ⟨tV, h0β, Or.inl ⟨rfl, rfl, rfl, fun i hi hne => (hd i hne).symm⟩⟩ (Bk_room tB tV (fun i hi hne => hd i hne) (fun k j c1 c2 c3 => xput_ne c3) (by rw [xput_eq, hδ0])) (RD_same (RD_congr tR tV (fun i hi hh => hd i (by omega))) (fun a j c1 c2 => xput_ne (by omega))) (fun k j hk => xput_ne (by omega)) (by omega) (by omega) (fun x x4 xβ => ?_)
      unfold m_X13_setRoom
      rw [xlet_eq, xj_eq, isIn_i h1 h2 (by omega) (by omega) (by omega) (by omega), if_pos (show 10 ≤ p ∧ p ≤ 40 by omega), if_neg (by omega)]
      refine OK_xbS (R_sets (c := 0) (v := p) i1 x4 xβ (by omega) hn) fun v s hz => ?_
      exact OK_some hz
    · rw [if_neg c2]
      exact hno (by omega)
theorem r_isOvenB {s : xS} (hs : s 185 = β) (hV : V β) (h1 : -2147483648 ≤ p) (h2 : p < 2147483648) : m_X13_isOven p s = some (if 0 ≤ p ∧ p < β 5 then 1 else 0) := by
  have h := r_isOven (σ := s) (p := p) (by rw [hs]; exact hV) h1 h2
  rw [hs] at h
  exact h
theorem q_breakOven (h : TJ σ β L m B) (hn : 4000000 ≤ n) (h1 : -2147483648 ≤ p) (h2 : p < 2147483648) (h3 : q = 0 ∨ q = 1) : CALL (m_X12_breakOven p q σ) (m_X13_breakOven n p q) := by
  have h' := h
  obtain ⟨⟨⟨tB, tβ, tV, tN⟩, tR, tP, t50⟩, h0β, ⟨i1, i2, i3, i4, i5⟩, -⟩ := h
  have hb := bk_two (σ 0 3)
  have k5 : ∀ t : xS, (xput t 184 7 0) 185 = t 185 := fun t => xput_ne1 (by omega)
  unfold m_X12_breakOven
  rw [c_hasOven tB tV h1 h2]
  by_cases c : 0 ≤ p ∧ p < β 5
  · obtain ⟨o, rfl⟩ : ∃ o : Nat, p = (o : Int) := ⟨p.toNat, by omega⟩
    obtain ⟨v0, v1, v2, v3, v4, v5, v6, v7, v8, v9, vd, vo, vs, vv, vr⟩ := tV
    have ho4 : o < 4 := by omega
    have ov := vo o c.2
    have ob := tB.2.2.2.2.2.2.2.2.2.2.2.1 o c.2 3 (by omega)
    have hd : ∀ i, i ≠ 70 + 4 * o + 3 → stI β (70 + 4 * o + 3) q i = β i := fun i hi => stI_ne hi
    have hδ0 : stI β (70 + 4 * o + 3) q (70 + 4 * o + 3) = q := stI_eq
    generalize stI β (70 + 4 * o + 3) q = δ at hd hδ0
    have ev : (if zI (σ (bkA (σ 0 3) + 9 + o) 3) = 0 then (0 : Int) else 1) = ovF β o 3 := by
      rw [ob]
      rcases ov.2.2.2 with e | e
      · rw [e]; rfl
      · rw [e]; rfl
    have tV : V β := h'.1.1.2.2.1
    have hVd : V δ := by
      refine ⟨by rw [hd _ (by omega)]; exact v0, by rw [hd _ (by omega)]; exact v1, by rw [hd _ (by omega)]; exact v2, by rw [hd _ (by omega)]; exact v3, by rw [hd _ (by omega)]; exact v4, by rw [hd _ (by omega)]; exact v5, by rw [hd _ (by omega)]; exact v6, by rw [hd _ (by omega)]; exact v7, by rw [hd _ (by omega)]; exact v8, by rw [hd _ (by omega)]; exact v9, Vd_c vd v4.2 (fun i hi => hd i (by omega)), fun o' ho' => ?_, Vs_c vs v7.2 (fun i hi => hd i (by omega)), Vv_c vv v8.2 (fun i hi => hd i (by omega)), Vr_c vr v9.2 (fun i hi => hd i (by omega))⟩
      rw [hd 5 (by omega)] at ho'
      have oo := vo o' ho'
      have e : ∀ w, w < 3 → ovF δ o' w = ovF β o' w := fun w hw => hd _ (by omega)
      rw [e 0 (by omega), e 1 (by omega), e 2 (by omega)]
      refine ⟨oo.1, oo.2.1, oo.2.2.1, ?_⟩
      by_cases d : o' = o
      · subst d
        rw [show ovF δ o' 3 = q from hδ0]
        exact h3
      · rw [show ovF δ o' 3 = ovF β o' 3 from hd _ (by omega)]
        exact oo.2.2.2
    rw [if_pos c, if_neg (by omega), zI_of (n := (o : Int)) (by omega) (by omega), xck_of (by omega) (by omega), tn_cast, ev, xlet_eq, xck_of (by omega) (by omega), xbo_of h3, xlet_eq]
    refine CALL_chg (δ := δ) h' hVd ⟨by rw [hd _ (by omega)]; exact h0β.1, by rw [hd _ (by omega)]; exact h0β.2.1, by rw [hd _ (by omega)]; exact h0β.2.2.1, fun o' ho' => ?_⟩ ⟨tV, h0β, Or.inr (Or.inl ⟨o, ho4, by rw [hd _ (by omega)]; exact c.2, rfl, rfl, rfl, fun i hi hne => (hd i hne).symm⟩)⟩ (Bk_oven ho4 tB tV (fun i hi hne => hd i hne) (fun k j c1 c2 c3 => xput_ne c3) (by rw [xput_eq]; exact hδ0.symm)) (RD_same (RD_congr tR tV (fun i hi hh => hd i (by omega))) (fun a j c1 c2 => xput_ne (by omega))) (fun k j hk => xput_ne (by omega)) (by omega) (by omega) (fun x x4 xβ => ?_)
    · rw [hd 5 (by omega)] at ho'
      rw [show ovF δ o' 0 = ovF β o' 0 from hd _ (by omega)]
      exact h0β.2.2.2 o' ho'
    · unfold m_X13_breakOven
      have eq3 : (if zI q = 0 then (0 : Int) else 1) = q := by rcases h3 with e | e <;> rw [e] <;> rfl
      rw [xlet_eq, r_isOvenB (by rw [k5]; exact xβ) tV h1 h2, bind_some', if_pos c, zI_of (n := 1) (by omega) (by omega), if_neg (by omega), eq3, xlet_eq, show (70 + 4 * (o : Int)) + 3 = ((70 + 4 * o + 3 : Nat) : Int) by omega]
      refine OK_xbS (R_sets (c := 70 + 4 * o + 3) (v := q) i1 x4 xβ (by omega) hn) fun v s hz => ?_
      refine OK_some ⟨rfl, ?_⟩
      obtain ⟨-, y0, w1, w2, w3⟩ := hz
      refine ⟨y0, w1, w2, ?_⟩
      dsimp only at w3 ⊢
      rw [w3]
      funext i
      by_cases d : i = 70 + 4 * o + 3
      · rw [d, stI_eq, hδ0]
      · rw [stI_ne d, hd i d]
  · rw [if_neg c, if_pos rfl]
    exact CALL_no h' (by omega) (by omega) (by
      unfold m_X13_breakOven
      rw [xlet_eq, r_isOvenB (by rw [k5]; exact tβ) tV h1 h2, bind_some', if_neg c, zI_of (n := 0) (by omega) (by omega), if_pos rfl])
end TOP2
