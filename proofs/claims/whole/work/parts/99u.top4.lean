/-! changes: an order more, undoing -/
section TOP4
variable {σ τ s x y y0 : xS} {n m b L : Nat} {β γ δ : Nat → Int} {B : Nat → Nat → Int} {p q u w : Int}
/-- the bakery with an order more -/
def adO (β : Nat → Int) (o : Nat) (p q u w : Int) (i : Nat) : Int := if i = 9 then (o : Int) + 1 else if i = 169 + 5 * o + 4 then 0 else if i = 169 + 5 * o + 3 then w else if i = 169 + 5 * o + 2 then u else if i = 169 + 5 * o + 1 then q else if i = 169 + 5 * o then p else β i
theorem adO_ne {o i : Nat} (h : i ≠ 9) (h2 : i < 169 + 5 * o ∨ 169 + 5 * o + 5 ≤ i) : adO β o p q u w i = β i := by
  unfold adO
  rw [if_neg (by omega), if_neg (by omega), if_neg (by omega), if_neg (by omega), if_neg (by omega), if_neg (by omega)]
theorem adO_9 {o : Nat} : adO β o p q u w 9 = (o : Int) + 1 := if_pos rfl
theorem adO_0 {o : Nat} : adO β o p q u w (169 + 5 * o) = p := by
  unfold adO
  rw [if_neg (by omega), if_neg (by omega), if_neg (by omega), if_neg (by omega), if_neg (by omega), if_pos rfl]
theorem adO_1 {o : Nat} : adO β o p q u w (169 + 5 * o + 1) = q := by
  unfold adO
  rw [if_neg (by omega), if_neg (by omega), if_neg (by omega), if_neg (by omega), if_pos rfl]
theorem adO_2 {o : Nat} : adO β o p q u w (169 + 5 * o + 2) = u := by
  unfold adO
  rw [if_neg (by omega), if_neg (by omega), if_neg (by omega), if_pos rfl]
theorem adO_3 {o : Nat} : adO β o p q u w (169 + 5 * o + 3) = w := by
  unfold adO
  rw [if_neg (by omega), if_neg (by omega), if_pos rfl]
theorem adO_4 {o : Nat} : adO β o p q u w (169 + 5 * o + 4) = 0 := by
  unfold adO
  rw [if_neg (by omega), if_pos rfl]
theorem q_addOrder (h : TJ σ β L m B) (hn : 4000000 ≤ n) (h1 : -2147483648 ≤ p) (h2 : p < 2147483648) (h3 : -2147483648 ≤ q) (h4 : q < 2147483648) (h5 : -2147483648 ≤ u) (h6 : u < 2147483648) (h7 : -2147483648 ≤ w) (h8 : w < 2147483648) : CALL (m_X12_addOrder p q u w σ) (m_X13_addOrder n p q u w) := by
  have h' := h
  obtain ⟨⟨⟨tB, tβ, tV, tN⟩, tR, tP, t50⟩, h0β, ⟨i1, i2, i3, i4, i5⟩, -⟩ := h
  have hb := bk_two (σ 0 3)
  have v9 := tV.2.2.2.2.2.2.2.2.2.1
  have v4 := tV.2.2.2.2.1
  have v6 := tV.2.2.2.2.2.2.1
  have k5 : ∀ t : xS, (xput t 184 7 0) 185 = t 185 := fun t => xput_ne1 (by omega)
  have e13 : σ (bkA (σ 0 3)) 13 = β 9 := tB.2.2.2.2.2.2.2.2.2.1
  have hst : ∀ x : xS, x 185 = β → m_X13_addOrder n p q u w x = (if ((0 ≤ p ∧ p < β 6) ∧ (0 ≤ q ∧ q < β 4)) ∧ (1 ≤ u ∧ u ≤ 200) ∧ (0 ≤ w ∧ w ≤ 1439) ∧ β 9 < 24 then (m_X13_records n (xput x 184 7 0)).bind fun s14 => xlet (169 + (5 * β 9)) fun v15 => xck (zI (v15 + 0)) 289 <| xlet (xput s14 185 (zI (v15 + 0)).toNat p) fun s16 => xck (zI (v15 + 1)) 289 <| xlet (xput s16 185 (zI (v15 + 1)).toNat q) fun s17 => xck (zI (v15 + 2)) 289 <| xlet (xput s17 185 (zI (v15 + 2)).toNat u) fun s18 => xck (zI (v15 + 3)) 289 <| xlet (xput s18 185 (zI (v15 + 3)).toNat w) fun s19 => xck (zI (v15 + 4)) 289 <| xlet (xput s19 185 (zI (v15 + 4)).toNat 0) fun s20 => xck 9 289 <| xlet (xput s20 185 (9 : Int).toNat (β 9 + 1)) fun s21 => some (β 9, s21) else some (-1, xput x 184 7 0)) := fun x hx => by
    unfold m_X13_addOrder
    rw [xlet_eq, xck_of (by omega) (by omega), k5, hx, show (9 : Int).toNat = 9 from rfl, xlet_eq, r_isShopB (by rw [k5]; exact hx) tV h1 h2, bind_some', xj_eq, r_isDoughB (by rw [k5]; exact hx) tV h3 h4, bind_some', zI_of (n := β 9) (by omega) (by omega), isIn_i h5 h6 (by omega) (by omega) (by omega) (by omega), isIn_i h7 h8 (by omega) (by omega) (by omega) (by omega)]
    rw [zI10, it10, zI10]
    by_cases c1 : 0 ≤ p ∧ p < β 6
    · rw [if_pos c1]
      by_cases c2 : 0 ≤ q ∧ q < β 4
      · rw [if_pos c2, if_neg (by omega), it10]
        by_cases c3 : 1 ≤ u ∧ u ≤ 200
        · rw [if_pos c3, it10]
          by_cases c4 : 0 ≤ w ∧ w ≤ 1439
          · rw [if_pos c4]
            by_cases c5 : β 9 = 24
            · rw [if_pos c5, if_neg (fun hh => by have := hh.2.2.2; omega)]
            · rw [if_neg c5, if_pos ⟨⟨c1, c2⟩, c3, c4, by omega⟩]
          · rw [if_neg c4, if_neg (fun hh => c4 hh.2.2.1)]
        · rw [if_neg c3, if_neg (fun hh => c3 hh.2.1)]
      · rw [if_neg c2, if_pos rfl, if_neg (fun hh => c2 hh.1.2)]
    · rw [if_neg c1, if_neg (fun hh => c1 hh.1.1)]
  have hno : ¬ (((0 ≤ p ∧ p < β 6) ∧ (0 ≤ q ∧ q < β 4)) ∧ (1 ≤ u ∧ u ≤ 200) ∧ (0 ≤ w ∧ w ≤ 1439) ∧ β 9 < 24) → CALL (some (-1, σ)) (m_X13_addOrder n p q u w) := fun c => CALL_no h' (by omega) (by omega) (by rw [hst σ tβ, if_neg c])
  unfold m_X12_addOrder
  rw [xj_eq, c_hasShop tB tV h1 h2, c_hasDough tB tV h3 h4, e13, zI_of (n := β 9) (by omega) (by omega), zI_of h5 h6, zI_of h7 h8]
  by_cases c1 : 0 ≤ p ∧ p < β 6
  · rw [if_pos c1, if_neg (by omega)]
    by_cases c2 : 0 ≤ q ∧ q < β 4
    · rw [if_pos c2, if_neg (by omega)]
      by_cases c5 : β 9 < 24
      · rw [if_pos c5, xj_eq]
        by_cases d1 : u < 1
        · rw [if_pos d1]
          exact hno (by omega)
        · rw [if_neg d1]
          by_cases d2 : 200 < u
          · rw [if_pos d2]
            exact hno (by omega)
          · rw [if_neg d2]
            by_cases d3 : w < 0
            · rw [if_pos d3]
              exact hno (by omega)
            · rw [if_neg d3]
              by_cases d4 : w ≤ 1439
              · have hok : ((0 ≤ p ∧ p < β 6) ∧ (0 ≤ q ∧ q < β 4)) ∧ (1 ≤ u ∧ u ≤ 200) ∧ (0 ≤ w ∧ w ≤ 1439) ∧ β 9 < 24 := ⟨⟨c1, c2⟩, by omega, by omega, c5⟩
                obtain ⟨o, ho⟩ : ∃ o : Nat, β 9 = (o : Int) := ⟨(β 9).toNat, by omega⟩
                have ho4 : o < 24 := by omega
                rw [if_pos d4, xlet_eq, ho, zI_of (n := (o : Int)) (by omega) (by omega), xck_of (by omega) (by omega), tn_cast]
                unfold m_X5_set
                rw [xlet_eq, xlet_eq, xlet_eq, xlet_eq, xlet_eq, bind_some']
                have g0 : ∀ k j, k ≠ bkA (σ 0 3) + 14 + o → (xput (xput (xput (xput (xput σ (bkA (σ 0 3) + 14 + o) 0 p) (bkA (σ 0 3) + 14 + o) 1 q) (bkA (σ 0 3) + 14 + o) 2 u) (bkA (σ 0 3) + 14 + o) 3 w) (bkA (σ 0 3) + 14 + o) 4 0) k j = σ k j := fun k j hk => by
                  rw [xput_ne (by omega), xput_ne (by omega), xput_ne (by omega), xput_ne (by omega), xput_ne (by omega)]
                have r0 : (xput (xput (xput (xput (xput σ (bkA (σ 0 3) + 14 + o) 0 p) (bkA (σ 0 3) + 14 + o) 1 q) (bkA (σ 0 3) + 14 + o) 2 u) (bkA (σ 0 3) + 14 + o) 3 w) (bkA (σ 0 3) + 14 + o) 4 0) (bkA (σ 0 3) + 14 + o) 0 = p := by
                  rw [xput_ne (by omega), xput_ne (by omega), xput_ne (by omega), xput_ne (by omega), xput_eq]
                have r1 : (xput (xput (xput (xput (xput σ (bkA (σ 0 3) + 14 + o) 0 p) (bkA (σ 0 3) + 14 + o) 1 q) (bkA (σ 0 3) + 14 + o) 2 u) (bkA (σ 0 3) + 14 + o) 3 w) (bkA (σ 0 3) + 14 + o) 4 0) (bkA (σ 0 3) + 14 + o) 1 = q := by
                  rw [xput_ne (by omega), xput_ne (by omega), xput_ne (by omega), xput_eq]
                have r2 : (xput (xput (xput (xput (xput σ (bkA (σ 0 3) + 14 + o) 0 p) (bkA (σ 0 3) + 14 + o) 1 q) (bkA (σ 0 3) + 14 + o) 2 u) (bkA (σ 0 3) + 14 + o) 3 w) (bkA (σ 0 3) + 14 + o) 4 0) (bkA (σ 0 3) + 14 + o) 2 = u := by
                  rw [xput_ne (by omega), xput_ne (by omega), xput_eq]
                have r3 : (xput (xput (xput (xput (xput σ (bkA (σ 0 3) + 14 + o) 0 p) (bkA (σ 0 3) + 14 + o) 1 q) (bkA (σ 0 3) + 14 + o) 2 u) (bkA (σ 0 3) + 14 + o) 3 w) (bkA (σ 0 3) + 14 + o) 4 0) (bkA (σ 0 3) + 14 + o) 3 = w := by
                  rw [xput_ne (by omega), xput_eq]
                have r4 : (xput (xput (xput (xput (xput σ (bkA (σ 0 3) + 14 + o) 0 p) (bkA (σ 0 3) + 14 + o) 1 q) (bkA (σ 0 3) + 14 + o) 2 u) (bkA (σ 0 3) + 14 + o) 3 w) (bkA (σ 0 3) + 14 + o) 4 0) (bkA (σ 0 3) + 14 + o) 4 = 0 := xput_eq
                generalize xput (xput (xput (xput (xput σ (bkA (σ 0 3) + 14 + o) 0 p) (bkA (σ 0 3) + 14 + o) 1 q) (bkA (σ 0 3) + 14 + o) 2 u) (bkA (σ 0 3) + 14 + o) 3 w) (bkA (σ 0 3) + 14 + o) 4 0 = s16 at g0 r0 r1 r2 r3 r4 ⊢
                have e03 : s16 0 3 = σ 0 3 := g0 _ _ (by omega)
                have e13' : s16 (bkA (σ 0 3)) 13 = (o : Int) := by rw [g0 _ _ (by omega), e13, ho]
                rw [e03, e13', xlet_eq]
                have hVd : V (adO β o p q u w) := by
                  obtain ⟨v0, v1, v2, v3, v4, v5, v6, v7, v8, v9, vd, vo, vs, vv, vr⟩ := tV
                  have hd : ∀ i, i ≠ 9 → (i < 169 + 5 * o ∨ 169 + 5 * o + 5 ≤ i) → adO β o p q u w i = β i := fun i a c => adO_ne a c
                  refine ⟨by rw [hd _ (by omega) (by omega)]; exact v0, by rw [hd _ (by omega) (by omega)]; exact v1, by rw [hd _ (by omega) (by omega)]; exact v2, by rw [hd _ (by omega) (by omega)]; exact v3, by rw [hd _ (by omega) (by omega)]; exact v4, by rw [hd _ (by omega) (by omega)]; exact v5, by rw [hd _ (by omega) (by omega)]; exact v6, by rw [hd _ (by omega) (by omega)]; exact v7, by rw [hd _ (by omega) (by omega)]; exact v8, by rw [adO_9]; omega, Vd_c vd v4.2 (fun i hi => hd i (by omega) (by omega)), Vo_c vo v5.2 (fun i hi => hd i (by omega) (by omega)), Vs_c vs v7.2 (fun i hi => hd i (by omega) (by omega)), Vv_c vv v8.2 (fun i hi => hd i (by omega) (by omega)), fun o' ho' => ?_⟩
                  rw [adO_9] at ho'
                  rw [hd 6 (by omega) (by omega), hd 4 (by omega) (by omega)]
                  by_cases d : o' = o
                  · subst d
                    rw [show oF (adO β o' p q u w) o' 0 = p from adO_0, show oF (adO β o' p q u w) o' 1 = q from adO_1, show oF (adO β o' p q u w) o' 2 = u from adO_2, show oF (adO β o' p q u w) o' 3 = w from adO_3, show oF (adO β o' p q u w) o' 4 = 0 from adO_4]
                    exact ⟨c1, c2, by omega, by omega, Or.inl rfl⟩
                  · have e : ∀ z, z < 5 → oF (adO β o p q u w) o' z = oF β o' z := fun z hz => hd _ (by omega) (by omega)
                    rw [e 0 (by omega), e 1 (by omega), e 2 (by omega), e 3 (by omega), e 4 (by omega)]
                    exact vr o' (by omega)
                have h0d : V0 (adO β o p q u w) := by
                  have v5 := tV.2.2.2.2.2.1
                  refine ⟨by rw [adO_ne (by omega) (by omega)]; exact h0β.1, by rw [adO_ne (by omega) (by omega)]; exact h0β.2.1, by rw [adO_ne (by omega) (by omega)]; exact h0β.2.2.1, fun o' ho' => ?_⟩
                  rw [adO_ne (by omega) (by omega)] at ho'
                  rw [show ovF (adO β o p q u w) o' 0 = ovF β o' 0 from adO_ne (by omega) (by omega)]
                  exact h0β.2.2.2 o' ho'
                refine CALL_chg (δ := adO β o p q u w) h' hVd h0d ⟨tV, h0β, Or.inr (Or.inr (Or.inr (Or.inl ⟨o, by omega, by rw [adO_9]; omega, ho, rfl, rfl, rfl, fun i hi hne => (adO_ne hne (by omega)).symm⟩)))⟩ (Bk_orders (m := o + 1) (by omega) tB tV (by rw [adO_9]; omega) (fun i c1 c2 => adO_ne c2 (by omega)) (fun k j c1 c2 c3 c4 => by rw [xput_ne (by omega), g0 _ _ (by omega)]) (by rw [xput_eq, adO_9]) (fun o' z hO hz => ?_)) (RD_same (RD_congr tR tV (fun i hi hh => adO_ne (by omega) (by omega))) (fun a j c1 c2 => by rw [xput_ne (by omega), g0 _ _ (by omega)])) (fun k j hk => by rw [xput_ne (by omega), g0 _ _ (by omega)]) (by omega) (by omega) (fun x x4 xβ => ?_)
                · rw [xput_ne (by omega)]
                  by_cases d : o' = o
                  · subst d
                    have z5 : z = 0 ∨ z = 1 ∨ z = 2 ∨ z = 3 ∨ z = 4 := by omega
                    rcases z5 with rfl | rfl | rfl | rfl | rfl
                    · rw [r0]; exact adO_0.symm
                    · rw [r1]; exact adO_1.symm
                    · rw [r2]; exact adO_2.symm
                    · rw [r3]; exact adO_3.symm
                    · rw [r4]; exact adO_4.symm
                  · rw [g0 _ _ (by omega), tB.2.2.2.2.2.2.2.2.2.2.2.2.2.2 o' (by omega) z hz]
                    exact (adO_ne (i := 169 + 5 * o' + z) (by omega) (by omega)).symm
                · rw [hst x xβ, if_pos hok]
                  refine OK_bind (r_records i1 (by rw [xput_ne (by omega)]; exact x4) hn) fun s14 hr => ?_
                  have e185 : s14 185 = β := by
                    funext j
                    rw [hr.2.2.2.2 _ _ (by omega) (by omega), xput_ne (by omega), xβ]
                  rw [ho, xlet_eq, zI_of (n := 169 + 5 * (o : Int) + 0) (by omega) (by omega), zI_of (n := 169 + 5 * (o : Int) + 1) (by omega) (by omega), zI_of (n := 169 + 5 * (o : Int) + 2) (by omega) (by omega), zI_of (n := 169 + 5 * (o : Int) + 3) (by omega) (by omega), zI_of (n := 169 + 5 * (o : Int) + 4) (by omega) (by omega), xck_of (by omega) (by omega), xlet_eq, xck_of (by omega) (by omega), xlet_eq, xck_of (by omega) (by omega), xlet_eq, xck_of (by omega) (by omega), xlet_eq, xck_of (by omega) (by omega), xlet_eq, xck_of (by omega) (by omega), xlet_eq, show (169 + 5 * (o : Int) + 0).toNat = 169 + 5 * o by omega, show (169 + 5 * (o : Int) + 1).toNat = 169 + 5 * o + 1 by omega, show (169 + 5 * (o : Int) + 2).toNat = 169 + 5 * o + 2 by omega, show (169 + 5 * (o : Int) + 3).toNat = 169 + 5 * o + 3 by omega, show (169 + 5 * (o : Int) + 4).toNat = 169 + 5 * o + 4 by omega, show (9 : Int).toNat = 9 from rfl]
                  refine OK_some ⟨rfl, s14, hr, fun k j hk => ?_, ?_⟩
                  · dsimp only
                    rw [xput_ne (by omega), xput_ne (by omega), xput_ne (by omega), xput_ne (by omega), xput_ne (by omega), xput_ne (by omega)]
                  · dsimp only
                    funext i
                    rw [← e185]
                    unfold adO xput
                    simp only [true_and]
              · rw [if_neg d4]
                exact hno (by omega)
      · rw [if_neg c5]
        exact hno (by omega)
    · rw [if_neg c2, if_pos rfl]
      exact hno (fun hh => c2 hh.1.2)
  · rw [if_neg c1, if_pos rfl]
    exact hno (fun hh => c1 hh.1.1)
theorem r_undoLoop {k : Nat} (hk : k ≤ 11) (h4 : σ 184 4 = (k : Int)) (hn : 4000000 ≤ n) : OK (loopF (fun rec5 (t4 : Int × xS) => if 289 ≤ (zI t4.1) then xlet (xput t4.2 184 5 0) fun s8 => some (s8 184 4, s8) else xck (zI ((289 * (t4.2 184 4)) + t4.1)) 3468 <| xck (zI t4.1) 289 <| xlet (xput t4.2 185 (zI t4.1).toNat (t4.2 188 (zI ((289 * (t4.2 184 4)) + t4.1)).toNat)) fun s9 => xlet (t4.1 + 1) fun v10 => rec5 (v10, s9)) n (0, σ))
    (fun y => y.1 = (k : Int) ∧ y.2 184 5 = 0 ∧ (∀ j, y.2 185 j = if j < 289 then σ 188 (289 * k + j) else σ 185 j) ∧ ∀ a j, a ≠ 185 → ¬ (a = 184 ∧ j = 5) → y.2 a j = σ a j) := by
  refine loop_for 289 (fun i (t : Int × xS) => t.1 = (i : Int) ∧ (∀ j, t.2 185 j = if j < i then σ 188 (289 * k + j) else σ 185 j) ∧ ∀ a j, a ≠ 185 → t.2 a j = σ a j) ?_ ?_ (by omega) ⟨rfl, fun j => by rw [if_neg (by omega)], fun _ _ _ => rfl⟩
  · rintro i t hi ⟨g1, g2, g3⟩ rec hrec
    have e4 : t.2 184 4 = (k : Int) := by rw [g3 _ _ (by omega)]; exact h4
    try dsimp only
    rw [g1, e4, ix289 (by omega) (by omega), zI_of (n := (i : Int)) (by omega) (by omega), if_neg (by omega), xck_of (by omega) (by omega), xck_of (by omega) (by omega), tn_cast, tn_cast, xlet_eq, xlet_eq, g3 188 _ (by omega)]
    refine hrec _ ⟨by show (i : Int) + 1 = _; omega, fun j => ?_, fun a j hk => ?_⟩
    · show xput t.2 185 i _ 185 j = _
      by_cases c : j = i
      · subst c
        rw [xput_eq, if_pos (by omega)]
      · rw [xput_ne (by omega), g2 j]
        by_cases d : j < i
        · rw [if_pos d, if_pos (by omega)]
        · rw [if_neg d, if_neg (by omega)]
    · show xput t.2 185 i _ a j = _
      rw [xput_ne (by omega)]
      exact g3 a j hk
  · rintro t ⟨g1, g2, g3⟩ rec
    try dsimp only
    rw [g1, zI_of (n := ((289 : Nat) : Int)) (by omega) (by omega), if_pos (by omega), xlet_eq]
    refine OK_some ⟨?_, (xput_eq : (xput t.2 184 5 0) 184 5 = 0), fun j => by show xput t.2 184 5 0 185 j = _; rw [xput_ne (by omega)]; exact g2 j, fun a j c1 c2 => by show xput t.2 184 5 0 a j = _; rw [xput_ne c2]; exact g3 a j c1⟩
    show xput t.2 184 5 0 184 4 = _
    rw [xput_ne (by omega), g3 _ _ (by omega)]
    exact h4
theorem q_undo (h : TJ σ β L m B) (hn : 4000000 ≤ n) : CALL (m_X12_undo n σ) (m_X13_undo n) := by
  have h' := h
  obtain ⟨⟨⟨tB, tβ, tV, tN⟩, tR, tP, t50⟩, h0β, ⟨i1, i2, i3, i4, i5⟩, ⟨f1, f2, f3, f4, f5⟩, ⟨e1, e2, e3, e4⟩, hF⟩ := h
  have hb := bk_two (σ 0 3)
  unfold m_X12_undo
  rw [i3, zI_of (n := (m : Int)) (by omega) (by omega)]
  by_cases c : m = 0
  · rw [if_pos (by omega)]
    exact CALL_no h' (by omega) (by omega) (by
      unfold m_X13_undo
      rw [xlet_eq, xput_ne (by omega), i4, zI_of (n := (m : Int)) (by omega) (by omega), if_pos (by omega)])
  · rw [if_neg (by omega)]
    have hE := (i5 (m - 1) (by omega)).2
    rw [show m - 1 + 1 = m by omega, i2] at hE
    refine OK_bind (c_takeBack (δ := B (m - 1)) (by omega) i1 i3 rfl rfl rfl hE tV tB tR hb hn) fun s2 hs => ?_
    obtain ⟨g1, g2, g3, g4⟩ := hs
    unfold m_X12_dropNight
    rw [xlet_eq, bind_some']
    have x3 : (xput s2 0 8 0) 114 3 = ((m - 1 : Nat) : Int) := by rw [xput_ne (by omega)]; exact g1
    have x8 : (xput s2 0 8 0) 0 8 = 0 := xput_eq
    have xb : ∀ k j, bkA (σ 0 3) ≤ k → (xput s2 0 8 0) k j = s2 k j := fun k j hk => xput_ne (by omega)
    have xf : ∀ k j, ¬ (bkA (σ 0 3) ≤ k ∧ k < bkA (σ 0 3) + 54) → ¬ (k = 114 ∧ j = 3) → ¬ (k = 0 ∧ j = 8) → (xput s2 0 8 0) k j = σ k j := fun k j c1 c2 c3 => by rw [xput_ne c3]; exact g4 k j c1 c2
    generalize xput s2 0 8 0 = x at x3 x8 xb xf ⊢
    refine OK_some ⟨by rw [x3]; exact ⟨by omega, by omega⟩, ?_⟩
    dsimp only
    rw [x3]
    unfold m_X13_undo
    have y4 : (xput x 184 7 0) 184 4 = (m : Int) := by rw [xput_ne (by omega), xf _ _ (by omega) (by omega) (by omega)]; exact i4
    rw [xlet_eq, y4, zI_of (n := (m : Int)) (by omega) (by omega), if_neg (by omega), xlet_eq]
    have z4 : (xput (xput x 184 7 0) 184 4 ((m : Int) - 1)) 184 4 = ((m - 1 : Nat) : Int) := by rw [xput_eq]; omega
    refine OK_mono (r_undoLoop (k := m - 1) (by omega) z4 hn) fun y hy => ?_
    obtain ⟨w1, w2, w3, w4⟩ := hy
    refine ⟨w1, ?_⟩
    have zf : ∀ k j, ¬ (k = 184 ∧ (j = 4 ∨ j = 7)) → (xput (xput x 184 7 0) 184 4 ((m : Int) - 1)) k j = x k j := fun k j c => by rw [xput_ne (by omega), xput_ne (by omega)]
    have w4' : ∀ k j, k ≠ 185 → ¬ (k = 184 ∧ (j = 4 ∨ j = 5 ∨ j = 7)) → y.2 k j = x k j := fun k j c1 c2 => by rw [w4 k j c1 (by omega), zf k j (by omega)]
    have yfy : ∀ k j, ¬ (bkA (σ 0 3) ≤ k ∧ k < bkA (σ 0 3) + 54) → ¬ (k = 114 ∧ j = 3) → ¬ (k = 0 ∧ j = 8) → k ≠ 185 → ¬ (k = 184 ∧ (j = 4 ∨ j = 5 ∨ j = 7)) → y.2 k j = σ k j := fun k j c1 c2 c3 c4 c5 => by rw [w4' k j c4 c5, xf k j c1 c2 c3]
    have yb : ∀ k j, bkA (σ 0 3) ≤ k → k < bkA (σ 0 3) + 54 → y.2 k j = s2 k j := fun k j c1 c2 => by rw [w4' k j (by omega) (by omega), xb k j c1]
    have y03 : y.2 0 3 = σ 0 3 := yfy _ _ (by omega) (by omega) (by omega) (by omega) (by omega)
    have y08 : y.2 0 8 = 0 := by rw [w4' _ _ (by omega) (by omega)]; exact x8
    have eqB : Eq289 (B (m - 1)) (y.2 185) := fun j hj => by
      rw [w3 j, if_pos hj, zf _ _ (by omega), xf _ _ (by omega) (by omega) (by omega)]
      exact (i5 (m - 1) (by omega)).1 j hj
    have hVB : V (B (m - 1)) := hE.1
    have h0B : V0 (B (m - 1)) := hE.2.1
    have hVy : V (y.2 185) := V_congr hVB eqB
    refine ⟨y.2 185, L, m - 1, fun i => if i < m - 1 then B i else y.2 185, ⟨⟨?_, rfl, hVy, Or.inl ⟨y08, w2⟩⟩, ?_, ?_, ?_⟩, V0_congr hVB h0B eqB, ⟨by omega, by dsimp only; rw [if_neg (by omega)], ?_, ?_, fun i hi => ⟨fun j hj => ?_, ?_⟩⟩, ⟨?_, ?_, f3, ?_, ?_⟩, ⟨?_, ?_, ?_, ?_⟩, ?_⟩
    · rw [y03]
      exact Bk_congr (Bk_same g2 hVB (fun k j c1 c2 => yb k j c1 c2)) hVB eqB
    · rw [y03]
      exact RD_same (RD_congr g3 hVB (fun i hi _ => eqB i (by omega))) (fun a j c1 c2 => yb a j (by omega) (by omega))
    · intro h8
      rw [y08] at h8
      exact absurd h8 (by omega)
    · rw [yfy _ _ (by omega) (by omega) (by omega) (by omega) (by omega)]
      exact t50
    · rw [w4' _ _ (by omega) (by omega)]
      exact x3
    · rw [w4 _ _ (by omega) (by omega)]
      exact z4
    · dsimp only
      rw [if_pos hi, yfy _ _ (by omega) (by omega) (by omega) (by omega) (by omega)]
      exact (i5 i (by omega)).1 j hj
    · dsimp only
      rw [if_pos hi, yfy _ _ (by omega) (by omega) (by omega) (by omega) (by omega), yfy 116 _ (by omega) (by omega) (by omega) (by omega) (by omega), yfy 117 _ (by omega) (by omega) (by omega) (by omega) (by omega)]
      have hEi := (i5 i (by omega)).2
      by_cases d : i + 1 < m - 1
      · rw [if_pos d]
        exact hEi
      · rw [if_neg d]
        rw [show i + 1 = m - 1 by omega] at hEi
        exact HE_congr hEi eqB
    · rw [yfy _ _ (by omega) (by omega) (by omega) (by omega) (by omega)]; exact f1
    · rw [yfy _ _ (by omega) (by omega) (by omega) (by omega) (by omega)]; exact f2
    · funext q
      rw [yfy _ _ (by omega) (by omega) (by omega) (by omega) (by omega), yfy 189 _ (by omega) (by omega) (by omega) (by omega) (by omega), f4]
    · intro q
      rw [yfy _ _ (by omega) (by omega) (by omega) (by omega) (by omega)]; exact f5 q
    · rw [yfy _ _ (by omega) (by omega) (by omega) (by omega) (by omega), yfy 184 _ (by omega) (by omega) (by omega) (by omega) (by omega)]; exact e1
    · rw [yfy _ _ (by omega) (by omega) (by omega) (by omega) (by omega), yfy 184 _ (by omega) (by omega) (by omega) (by omega) (by omega)]; exact e2
    · rw [yfy _ _ (by omega) (by omega) (by omega) (by omega) (by omega)]; exact e3
    · rw [yfy _ _ (by omega) (by omega) (by omega) (by omega) (by omega)]; exact e4
    · unfold FF
      rw [y03, yfy 0 4 (by omega) (by omega) (by omega) (by omega) (by omega)]
      exact hF
end TOP4
