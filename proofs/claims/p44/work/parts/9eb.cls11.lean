/-! the class alone: changes undone -/
section CLSB
variable {σ τ s x y : xS} {n m b : Nat} {β γ δ : Nat → Int} {B : Nat → Nat → Int} {p q u w f : Int}
/-- the bakery with an order more -/
def adO (β : Nat → Int) (o : Nat) (p q u w : Int) (i : Nat) : Int := if i = 9 then (o : Int) + 1 else if i = 169 + 5 * o + 4 then 0 else if i = 169 + 5 * o + 3 then w else if i = 169 + 5 * o + 2 then u else if i = 169 + 5 * o + 1 then q else if i = 169 + 5 * o then p else β i
theorem adO_ne {o i : Nat} (h : i ≠ 9) (h2 : i < 169 + 5 * o ∨ 169 + 5 * o + 5 ≤ i) : adO β o p q u w i = β i := by
  unfold adO
  rw [if_neg (by omega), if_neg (by omega), if_neg (by omega), if_neg (by omega), if_neg (by omega), if_neg (by omega)]
theorem adO_9 {o : Nat} : adO β o p q u w 9 = (o : Int) + 1 := if_pos rfl
theorem adO_0 {o : Nat} : adO β o p q u w (169 + 5 * o) = p := by
  unfold adO
  rw [if_neg (by omega), if_neg (by omega), if_neg (by omega), if_neg (by omega), if_neg (by omega), if_pos rfl]
theorem adO_1 {o : Nat} : adO β o p q u w (169 + 5 * o + 1) = q := by
  unfold adO
  rw [if_neg (by omega), if_neg (by omega), if_neg (by omega), if_neg (by omega), if_pos rfl]
theorem adO_2 {o : Nat} : adO β o p q u w (169 + 5 * o + 2) = u := by
  unfold adO
  rw [if_neg (by omega), if_neg (by omega), if_neg (by omega), if_pos rfl]
theorem adO_3 {o : Nat} : adO β o p q u w (169 + 5 * o + 3) = w := by
  unfold adO
  rw [if_neg (by omega), if_neg (by omega), if_pos rfl]
theorem adO_4 {o : Nat} : adO β o p q u w (169 + 5 * o + 4) = 0 := by
  unfold adO
  rw [if_neg (by omega), if_pos rfl]
theorem a_add (h : CB σ β) (h0β : V0 β) (H : HX σ m B) (hm : m ≤ 10) (hBm : B m = β) {o : Nat} (ho : β 9 = (o : Int)) (ho4 : o < 24) (c1 : 0 ≤ p ∧ p < β 6) (c2 : 0 ≤ q ∧ q < β 4) (c3 : 1 ≤ u ∧ u ≤ 200) (c4 : 0 ≤ w ∧ w ≤ 1439) : OK (m_X12_addOrder p q u w σ) (fun x => x.1 = (o : Int) ∧ CB x.2 (adO β o p q u w) ∧ V0 (adO β o p q u w) ∧ HX x.2 (m + 1) (upB B m (adO β o p q u w)) ∧ x.2 0 8 = 0 ∧ cfr σ x.2) := by
  have h' := h
  obtain ⟨tB, tV, tR⟩ := h
  have hb := bk_two (σ 0 3)
  have v9 := tV.2.2.2.2.2.2.2.2.2.1
  have v4 := tV.2.2.2.2.1
  have v6 := tV.2.2.2.2.2.2.1
  have e13 : σ (bkA (σ 0 3)) 13 = β 9 := tB.2.2.2.2.2.2.2.2.2.1
  unfold m_X12_addOrder
  rw [xj_eq, c_hasShop tB tV (by omega) (by omega), c_hasDough tB tV (by omega) (by omega), e13, zI_of (n := β 9) (by omega) (by omega), zI_of (n := u) (by omega) (by omega), zI_of (n := w) (by omega) (by omega)]
  rw [if_pos c1, if_neg (by omega), if_pos c2, if_neg (by omega), if_pos (by omega), xj_eq, if_neg (by omega), if_neg (by omega), if_neg (by omega), if_pos c4.2, xlet_eq, ho, zI_of (n := (o : Int)) (by omega) (by omega), xck_of (by omega) (by omega), tn_cast]
  unfold m_X5_set
  rw [xlet_eq, xlet_eq, xlet_eq, xlet_eq, xlet_eq, bind_some']
  have g0 : ∀ k j, k ≠ bkA (σ 0 3) + 14 + o → (xput (xput (xput (xput (xput σ (bkA (σ 0 3) + 14 + o) 0 p) (bkA (σ 0 3) + 14 + o) 1 q) (bkA (σ 0 3) + 14 + o) 2 u) (bkA (σ 0 3) + 14 + o) 3 w) (bkA (σ 0 3) + 14 + o) 4 0) k j = σ k j := fun k j hk => by
    rw [xput_ne (by omega), xput_ne (by omega), xput_ne (by omega), xput_ne (by omega), xput_ne (by omega)]
  have r0 : (xput (xput (xput (xput (xput σ (bkA (σ 0 3) + 14 + o) 0 p) (bkA (σ 0 3) + 14 + o) 1 q) (bkA (σ 0 3) + 14 + o) 2 u) (bkA (σ 0 3) + 14 + o) 3 w) (bkA (σ 0 3) + 14 + o) 4 0) (bkA (σ 0 3) + 14 + o) 0 = p := by
    rw [xput_ne (by omega), xput_ne (by omega), xput_ne (by omega), xput_ne (by omega), xput_eq]
  have r1 : (xput (xput (xput (xput (xput σ (bkA (σ 0 3) + 14 + o) 0 p) (bkA (σ 0 3) + 14 + o) 1 q) (bkA (σ 0 3) + 14 + o) 2 u) (bkA (σ 0 3) + 14 + o) 3 w) (bkA (σ 0 3) + 14 + o) 4 0) (bkA (σ 0 3) + 14 + o) 1 = q := by
    rw [xput_ne (by omega), xput_ne (by omega), xput_ne (by omega), xput_eq]
  have r2 : (xput (xput (xput (xput (xput σ (bkA (σ 0 3) + 14 + o) 0 p) (bkA (σ 0 3) + 14 + o) 1 q) (bkA (σ 0 3) + 14 + o) 2 u) (bkA (σ 0 3) + 14 + o) 3 w) (bkA (σ 0 3) + 14 + o) 4 0) (bkA (σ 0 3) + 14 + o) 2 = u := by
    rw [xput_ne (by omega), xput_ne (by omega), xput_eq]
  have r3 : (xput (xput (xput (xput (xput σ (bkA (σ 0 3) + 14 + o) 0 p) (bkA (σ 0 3) + 14 + o) 1 q) (bkA (σ 0 3) + 14 + o) 2 u) (bkA (σ 0 3) + 14 + o) 3 w) (bkA (σ 0 3) + 14 + o) 4 0) (bkA (σ 0 3) + 14 + o) 3 = w := by
    rw [xput_ne (by omega), xput_eq]
  have r4 : (xput (xput (xput (xput (xput σ (bkA (σ 0 3) + 14 + o) 0 p) (bkA (σ 0 3) + 14 + o) 1 q) (bkA (σ 0 3) + 14 + o) 2 u) (bkA (σ 0 3) + 14 + o) 3 w) (bkA (σ 0 3) + 14 + o) 4 0) (bkA (σ 0 3) + 14 + o) 4 = 0 := xput_eq
  generalize xput (xput (xput (xput (xput σ (bkA (σ 0 3) + 14 + o) 0 p) (bkA (σ 0 3) + 14 + o) 1 q) (bkA (σ 0 3) + 14 + o) 2 u) (bkA (σ 0 3) + 14 + o) 3 w) (bkA (σ 0 3) + 14 + o) 4 0 = s16 at g0 r0 r1 r2 r3 r4 ⊢
  have e03 : s16 0 3 = σ 0 3 := g0 _ _ (by omega)
  have e13' : s16 (bkA (σ 0 3)) 13 = (o : Int) := by rw [g0 _ _ (by omega), e13, ho]
  rw [e03, e13', xlet_eq]
  have hVd : V (adO β o p q u w) := by
    obtain ⟨v0, v1, v2, v3, v4, v5, v6, v7, v8, v9, vd, vo, vs, vv, vr⟩ := tV
    have hd : ∀ i, i ≠ 9 → (i < 169 + 5 * o ∨ 169 + 5 * o + 5 ≤ i) → adO β o p q u w i = β i := fun i a c => adO_ne a c
    refine ⟨by rw [hd _ (by omega) (by omega)]; exact v0, by rw [hd _ (by omega) (by omega)]; exact v1, by rw [hd _ (by omega) (by omega)]; exact v2, by rw [hd _ (by omega) (by omega)]; exact v3, by rw [hd _ (by omega) (by omega)]; exact v4, by rw [hd _ (by omega) (by omega)]; exact v5, by rw [hd _ (by omega) (by omega)]; exact v6, by rw [hd _ (by omega) (by omega)]; exact v7, by rw [hd _ (by omega) (by omega)]; exact v8, by rw [adO_9]; omega, Vd_c vd v4.2 (fun i hi => hd i (by omega) (by omega)), Vo_c vo v5.2 (fun i hi => hd i (by omega) (by omega)), Vs_c vs v7.2 (fun i hi => hd i (by omega) (by omega)), Vv_c vv v8.2 (fun i hi => hd i (by omega) (by omega)), fun o' ho' => ?_⟩
    rw [adO_9] at ho'
    rw [hd 6 (by omega) (by omega), hd 4 (by omega) (by omega)]
    by_cases d : o' = o
    · subst d
      rw [show oF (adO β o' p q u w) o' 0 = p from adO_0, show oF (adO β o' p q u w) o' 1 = q from adO_1, show oF (adO β o' p q u w) o' 2 = u from adO_2, show oF (adO β o' p q u w) o' 3 = w from adO_3, show oF (adO β o' p q u w) o' 4 = 0 from adO_4]
      exact ⟨c1, c2, by omega, by omega, Or.inl rfl⟩
    · have e : ∀ z, z < 5 → oF (adO β o p q u w) o' z = oF β o' z := fun z hz => hd _ (by omega) (by omega)
      rw [e 0 (by omega), e 1 (by omega), e 2 (by omega), e 3 (by omega), e 4 (by omega)]
      exact vr o' (by omega)
  have h0d : V0 (adO β o p q u w) := V0_of h0β tV (fun i h1 h2 => adO_ne (by omega) (by omega))
  refine OK_mono (a_chg (δ := adO β o p q u w) (v := (o : Int)) h' H hm hBm hVd ⟨tV, h0β, Or.inr (Or.inr (Or.inr (Or.inl ⟨o, by omega, by rw [adO_9]; omega, ho, rfl, rfl, rfl, fun i hi hne => (adO_ne hne (by omega)).symm⟩)))⟩ (Bk_orders (m := o + 1) (by omega) tB tV (by rw [adO_9]; omega) (fun i c1 c2 => adO_ne c2 (by omega)) (fun k j c1 c2 c3 c4 => by rw [xput_ne (by omega), g0 _ _ (by omega)]) (by rw [xput_eq, adO_9]) (fun o' z hO hz => ?_)) (RD_same (RD_congr tR tV (fun i hi hh => adO_ne (by omega) (by omega))) (fun a j c1 c2 => by rw [xput_ne (by omega), g0 _ _ (by omega)])) (fun k j hk => by rw [xput_ne (by omega), g0 _ _ (by omega)])) fun x hx => ⟨hx.1, hx.2.1, h0d, hx.2.2⟩
  rw [xput_ne (by omega)]
  by_cases d : o' = o
  · subst d
    have z5 : z = 0 ∨ z = 1 ∨ z = 2 ∨ z = 3 ∨ z = 4 := by omega
    rcases z5 with rfl | rfl | rfl | rfl | rfl
    · rw [r0]; exact adO_0.symm
    · rw [r1]; exact adO_1.symm
    · rw [r2]; exact adO_2.symm
    · rw [r3]; exact adO_3.symm
    · rw [r4]; exact adO_4.symm
  · rw [g0 _ _ (by omega), tB.2.2.2.2.2.2.2.2.2.2.2.2.2.2 o' (by omega) z hz]
    exact (adO_ne (i := 169 + 5 * o' + z) (by omega) (by omega)).symm
theorem a_between {lo hi : Nat} (h : lo ≤ hi) (h2 : hi < 10000) : m_L_between p (lo : Int) (hi : Int) σ = some ((bw p lo hi : Nat) : Int) := by
  have hz := zand_lo p
  unfold m_L_between bw
  rw [zI_of (n := (hi : Int) - (lo : Int) + 1) (by omega) (by omega), xnz_of (by omega), zI_of (n := zand p 2147483647) (by omega) (by omega), Int.tdiv_eq_ediv_of_nonneg hz.1]
  congr 1
  have e1 := Int.emod_def (zand p 2147483647) ((hi : Int) - (lo : Int) + 1)
  have e2 : (zand p 2147483647) % ((hi : Int) - (lo : Int) + 1) = (((zand p 2147483647).toNat % (hi - lo + 1) : Nat) : Int) := by
    rw [Int.natCast_emod]
    congr 1 <;> omega
  have e3 : ((hi : Int) - (lo : Int) + 1) * (zand p 2147483647 / ((hi : Int) - (lo : Int) + 1)) = zand p 2147483647 / ((hi : Int) - (lo : Int) + 1) * ((hi : Int) - (lo : Int) + 1) := Int.mul_comm _ _
  rw [Int.natCast_add, ← e2]
  omega
theorem l_isUndone (hc : CK s σ β) (hT : TB β) (hn : 4000000 ≤ n) : OK (m_L_isUndone n p σ) (fun x => x.1 = 1 ∧ CK s x.2 β) := by
  have hT' := hT
  obtain ⟨hV, h0, t0, t1, t4, t5, t6, t7, t8, t9, h60, to, t3⟩ := hT
  have hA : Ag β β := fun _ _ _ => rfl
  have hlb := ltV_bd (β := β) (γ := β) (e := 0) hA hV hV h60 (Or.inl rfl)
  have hlz : zI (ltV β β 0) = ltV β β 0 := zI_of (by omega) (by omega)
  have hall := allF_bd hV
  have hr0 := hV.2.2.2.2.2.2.2.2.2.2.2.2.2.2 0 (by omega)
  unfold m_L_isUndone
  refine OK_xbS (c_latestStart hc.1 hn h60) (fun v s1 g => ?_)
  obtain ⟨g1, g2⟩ := g
  dsimp only at g1 g2
  subst g1
  have c1 := CK_try hc g2
  obtain ⟨a, ha, ha1⟩ : ∃ a : Nat, bw p 0 1439 = a ∧ a ≤ 1439 := ⟨_, rfl, (bw_le (by omega)).2⟩
  obtain ⟨r, hr, hr1⟩ : ∃ r : Nat, bw (zshr p 8) 10 40 = r ∧ 10 ≤ r ∧ r ≤ 40 := ⟨_, rfl, bw_le (by omega)⟩
  have hab : ∀ t : xS, m_L_between p 0 1439 t = some (a : Int) := fun t => by rw [← ha]; exact a_between (lo := 0) (hi := 1439) (by omega) (by omega)
  have hrb : ∀ t : xS, m_L_between (zshr p 8) 10 40 t = some (r : Int) := fun t => by rw [← hr]; exact a_between (lo := 10) (hi := 40) (by omega) (by omega)
  rw [c_batchCount c1.1.1 hV hn, if_pos h60, bind_some', hab, bind_some']
  have H0 : HX s1 0 (fun _ => β) := ⟨c1.2.1, fun i hi => absurd hi (Nat.not_lt_zero _)⟩
  -- moved
  refine OK_xbS (a_move (q := (a : Int)) c1.1 h0 H0 (by omega) rfl (o := 0) (by omega) (to 0 (by omega)) (by omega)) (fun v6 s5 g => ?_)
  obtain ⟨g1, g2, g3, g4, g5, g6⟩ := g
  dsimp only at g1 g2 g3 g4 g5 g6
  generalize hδ1 : stI β (169 + 5 * 0 + 3) (a : Int) = δ1 at g2 g3 g4
  have d1 : ∀ i, i ≠ 172 → δ1 i = β i := fun i hi => by rw [← hδ1]; exact stI_ne (by omega)
  rw [hrb, bind_some']
  -- the room
  refine OK_xbS (a_setRoom (p := (r : Int)) g2 g3 g4 (by omega) (upB_gt (by omega)) (by omega)) (fun v9 s8 k => ?_)
  obtain ⟨k1, k2, k3, k4, k5, k6⟩ := k
  dsimp only at k1 k2 k3 k4 k5 k6
  rw [d1 0 (by omega), t0] at k1
  generalize hδ2 : stI δ1 0 (r : Int) = δ2 at k2 k3 k4
  have d2 : ∀ i, i ≠ 0 → δ2 i = δ1 i := fun i hi => by rw [← hδ2]; exact stI_ne hi
  -- an order more
  refine OK_xbS (a_add (p := 1) (q := 0) (u := 5) (w := (a : Int)) k2 k3 k4 (by omega) (upB_gt (by omega)) (o := 4) (by rw [d2 9 (by omega), d1 9 (by omega), t9]; rfl) (by omega) (by rw [d2 6 (by omega), d1 6 (by omega)]; omega) (by rw [d2 4 (by omega), d1 4 (by omega)]; omega) (by omega) (by omega)) (fun v11 s10 l => ?_)
  obtain ⟨l1, l2, l3, l4, l5, l6⟩ := l
  dsimp only at l1 l2 l3 l4 l5 l6
  generalize hδ3 : adO δ2 4 1 0 5 (a : Int) = δ3 at l2 l3 l4
  have d3 : ∀ i, i ≠ 9 → i < 189 → δ3 i = δ2 i := fun i h1 h2 => by rw [← hδ3]; exact adO_ne h1 (by omega)
  have d39 : δ3 9 = 5 := by rw [← hδ3]; exact adO_9
  have v6z : v6 = oF β 0 3 := g1
  subst v6z
  subst k1
  subst l1
  have hsp : m_X12_spoiledCount n s10 = some (-2) := by
    unfold m_X12_spoiledCount
    rw [l5, xj_eq, zI_of (n := 0) (by omega) (by omega), if_pos rfl]
  rw [xj_eq, zI_of (n := oF β 0 3) (by omega) (by omega), if_neg (by omega), zI_of (n := 24) (by omega) (by omega), if_pos rfl, zI_of (n := ((4 : Nat) : Int)) (by omega) (by omega), if_pos (by omega), hsp, bind_some', zI_of (n := -2) (by omega) (by omega), if_pos rfl]
  -- one cancelled, twice
  have o14 : oF δ3 1 4 = 0 := by
    have e : oF β 1 4 = 0 := to 1 (by omega)
    show δ3 (169 + 5 * 1 + 4) = 0
    rw [d3 _ (by omega) (by omega), d2 _ (by omega), d1 _ (by omega)]
    exact e
  refine OK_xbS (a_cancel l2 l3 l4 (by omega) (upB_gt (by omega)) (o := 1) (by rw [d39]; omega) o14) (fun v22 s21 k => ?_)
  obtain ⟨m1, m2, m3, m4, m5, m6⟩ := k
  dsimp only at m1 m2 m3 m4 m5 m6
  subst m1
  generalize hδ4 : stI δ3 (169 + 5 * 1 + 4) 1 = δ4 at m2 m3 m4
  have d4 : ∀ i, i ≠ 178 → δ4 i = δ3 i := fun i hi => by rw [← hδ4]; exact stI_ne (by omega)
  have o14' : oF δ4 1 4 ≠ 0 := by
    have e : δ4 (169 + 5 * 1 + 4) = 1 := by rw [← hδ4]; exact stI_eq
    show δ4 (169 + 5 * 1 + 4) ≠ 0
    rw [e]
    omega
  have hcn : m_X12_cancelOrder 1 s21 = some (0, s21) := a_cancelNo (o := 1) m2 (by rw [d4 9 (by omega), d39]; omega) o14'
  have hoc : m_X12_orderCount s21 = 5 := by
    unfold m_X12_orderCount
    rw [m2.1.2.2.2.2.2.2.2.2.2.1, d4 9 (by omega), d39]
  rw [zI_of (n := 1) (by omega) (by omega), if_neg (by omega), hcn, xbS_s, zI_of (n := 0) (by omega) (by omega), if_pos rfl, hoc, zI_of (n := 5) (by omega) (by omega), if_pos rfl]
  -- the oven broken
  refine OK_xbS (a_break (q := 1) m2 m3 m4 (by omega) (upB_gt (by omega)) (Or.inr rfl) (o := 0) (by rw [d4 5 (by omega), d3 5 (by omega) (by omega), d2 5 (by omega), d1 5 (by omega)]; omega)) (fun v29 s28 k => ?_)
  obtain ⟨n1, n2, n3, n4, n5, n6⟩ := k
  dsimp only at n1 n2 n3 n4 n5 n6
  subst n1
  generalize hδ5 : stI δ4 (70 + 4 * 0 + 3) 1 = δ5 at n2 n3 n4
  rw [zI_of (n := 1) (by omega) (by omega), if_neg (by omega)]
  -- all undone
  generalize hBs : upB (upB (upB (upB (upB (fun _ => β) 0 δ1) 1 δ2) 2 δ3) 3 δ4) 4 δ5 = Bs at n4
  have b5 : Bs 5 = δ5 := by rw [← hBs]; exact upB_gt (by omega)
  have b0 : Bs 0 = β := by rw [← hBs, upB_le (by omega), upB_le (by omega), upB_le (by omega), upB_le (by omega), upB_le (by omega)]
  have hkp : kp s s28 := kp_t (kp_t (kp_t (kp_t (kp_t c1.2.2 (kp_c g6)) (kp_c k6)) (kp_c l6)) (kp_c m6)) (kp_c n6)
  refine loop_for 5 (fun i (t : Int × xS) => t.1 = 4 - (i : Int) ∧ CB t.2 (Bs (5 - i)) ∧ HX t.2 (5 - i) Bs ∧ kp s t.2) ?_ ?_ (by omega) ⟨rfl, by rw [show 5 - 0 = 5 from rfl, b5]; exact n2, n4, hkp⟩
  · rintro i ⟨t1, t2⟩ hi ⟨i1, i2, i3, i4⟩ rec hrec
    dsimp only at i1 i2 i3 i4 hrec ⊢
    subst i1
    rw [zI_of (n := 4 - (i : Int)) (by omega) (by omega), if_neg (by omega)]
    have e5 : 5 - i = (4 - i) + 1 := by omega
    rw [e5] at i2 i3
    refine OK_xbS (a_undo (m := 4 - i) i2 i3 (by omega) hn) (fun v61 s60 k => ?_)
    obtain ⟨j1, j2, j3, j4, j5⟩ := k
    dsimp only at j1 j2 j3 j4 j5
    subst j1
    rw [zI_of (n := ((4 - i : Nat) : Int)) (by omega) (by omega), if_pos (by omega), xlet_eq]
    have e6 : 5 - (i + 1) = 4 - i := by omega
    exact hrec _ ⟨by dsimp only; omega, by rw [e6]; exact j2, by rw [e6]; exact j3, kp_t i4 (kp_c j5)⟩
  · rintro ⟨t1, t2⟩ ⟨i1, i2, i3, i4⟩ rec
    dsimp only at i1 i2 i3 i4 ⊢
    subst i1
    rw [show 5 - 5 = 0 from rfl, b0] at i2
    have i3' : t2 114 3 = 0 := i3.1
    have hoc2 : m_X12_orderCount t2 = 4 := by
      unfold m_X12_orderCount
      rw [i2.1.2.2.2.2.2.2.2.2.2.1, t9]
    rw [zI_of (n := 4 - ((5 : Nat) : Int)) (by omega) (by omega), if_pos (by omega), a_undo0 i3', xbS_s]
    rw [xj_eq, xj_eq, zI_of (n := -1) (by omega) (by omega), if_pos rfl, hoc2, zI_of (n := 4) (by omega) (by omega), if_pos rfl]
    refine OK_xbS (c_latestStart i2 hn h60) (fun v50 s49 g => ?_)
    obtain ⟨w1, w2⟩ := g
    dsimp only at w1 w2
    subst w1
    have hB49 : CB s49 β := CB_same i2 (w2 _ _ (by omega)) (fun a j c1 c2 => w2 a j (by omega))
    have hk49 : kp s s49 := kp_t i4 (fun a j hj => w2 a j (by omega))
    rw [if_pos rfl, c_batchCount hB49.1 hV hn, if_pos h60, bind_some', if_pos rfl]
    have H49 : HX s49 0 (fun _ => β) := ⟨by rw [w2 _ _ (by omega)]; exact i3', fun i hi => absurd hi (Nat.not_lt_zero _)⟩
    refine OK_xbS (a_move (q := oF β 0 3) hB49 h0 H49 (by omega) rfl (o := 0) (by omega) (to 0 (by omega)) (by omega)) (fun v55 s54 g => ?_)
    obtain ⟨y1, y2, y3, y4, y5, y6⟩ := g
    dsimp only at y1 y2 y3 y4 y5 y6
    subst y1
    rw [zI_of (n := oF β 0 3) (by omega) (by omega), if_pos rfl]
    refine OK_xbS (a_undo (m := 0) (by rw [upB_gt (by omega)]; exact y2) y4 (by omega) hn) (fun v58 s57 g => ?_)
    obtain ⟨z1, z2, z3, z4, z5⟩ := g
    dsimp only at z1 z2 z3 z4 z5
    subst z1
    rw [upB_le (Nat.le_refl 0)] at z2
    rw [zI_of (n := ((0 : Nat) : Int)) (by omega) (by omega), if_pos (by omega)]
    dsimp only
    rw [xbo_1]
    exact OK_some ⟨rfl, z2, z3.1, kp_t (kp_t hk49 (kp_c y6)) (kp_c z5)⟩
end CLSB
