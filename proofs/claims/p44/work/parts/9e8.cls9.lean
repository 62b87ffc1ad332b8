/-! the class alone: changes, forward and back -/
section CLS9
variable {σ τ s x y : xS} {n m b : Nat} {β γ δ : Nat → Int} {B : Nat → Nat → Int} {p q u w : Int}
/-- the history: m records, from B m back to B 0 -/
def HX (σ : xS) (m : Nat) (B : Nat → Nat → Int) : Prop := σ 114 3 = (m : Int) ∧ ∀ i, i < m → HE (σ 115 i) (σ 116 i) (σ 117 i) (B (i + 1)) (B i)
def upB (B : Nat → Nat → Int) (m : Nat) (δ : Nat → Int) : Nat → Nat → Int := fun i => if i ≤ m then B i else δ
theorem upB_le {i : Nat} (h : i ≤ m) : upB B m δ i = B i := if_pos h
theorem upB_gt {i : Nat} (h : m < i) : upB B m δ i = δ := if_neg (by omega)
/-- what a change leaves alone -/
def cfr (σ τ : xS) : Prop := ∀ k j, ¬ (bkA (σ 0 3) ≤ k ∧ k < bkA (σ 0 3) + 54) → ¬ (114 ≤ k ∧ k ≤ 117) → ¬ (k = 0 ∧ j = 8) → τ k j = σ k j
theorem a_chg {K I Bv v : Int} (h : CB σ β) (H : HX σ m B) (hm : m ≤ 10) (hBm : B m = β) (hV : V δ) (hE : HE K I Bv δ β) (hBs : Bk s (bkA (σ 0 3)) δ 0) (hRs : RD s (bkA (σ 0 3) + 39) δ) (hf : ∀ k j, ¬ (bkA (σ 0 3) ≤ k ∧ k < bkA (σ 0 3) + 54) → s k j = σ k j) :
    OK ((m_X12_recordChange K I Bv s).bind fun s8 => some (v, s8)) (fun x => x.1 = v ∧ CB x.2 δ ∧ HX x.2 (m + 1) (upB B m δ) ∧ x.2 0 8 = 0 ∧ cfr σ x.2) := by
  have hb := bk_two (σ 0 3)
  refine OK_bind (c_record (m := m) (K := K) (I := I) (Bv := Bv) (by omega) (by rw [hf _ _ (by omega)]; exact H.1)) fun x hz => ?_
  obtain ⟨z1, z2, ⟨z3, z4, z5⟩, z6, z7⟩ := hz
  have hmn : mnF m = m := if_neg (by omega)
  have hsh : shM m = 0 := if_neg (by omega)
  rw [hmn] at z1 z2 z3 z4 z5
  rw [hsh] at z2
  have e3 : x 0 3 = σ 0 3 := by rw [z7 _ _ (by omega) (by omega), hf _ _ (by omega)]
  refine OK_some ⟨rfl, ⟨?_, hV, ?_⟩, ⟨by dsimp only; rw [z1]; omega, fun i hi => ?_⟩, z6, fun k j c1 c2 c3 => by dsimp only; rw [z7 k j c2 c3]; exact hf k j c1⟩
  · dsimp only
    rw [e3]
    exact Bk_same hBs hV (fun k j c1 c2 => z7 k j (by omega) (by omega))
  · dsimp only
    rw [e3]
    exact RD_same hRs (fun a j c1 c2 => z7 a j (by omega) (by omega))
  · dsimp only
    by_cases c : i = m
    · rw [c, z3, z4, z5, upB_gt (by omega), upB_le (Nat.le_refl _), hBm]
      exact hE
    · have hi' : i < m := by omega
      have e1 : x 115 i = σ 115 i := by rw [(z2 i hi').1]; exact hf _ _ (by omega)
      have e2 : x 116 i = σ 116 i := by rw [(z2 i hi').2.1]; exact hf _ _ (by omega)
      have e4 : x 117 i = σ 117 i := by rw [(z2 i hi').2.2]; exact hf _ _ (by omega)
      rw [e1, e2, e4, upB_le (by omega), upB_le (by omega)]
      exact H.2 i hi'
theorem a_setRoom (h : CB σ β) (h0β : V0 β) (H : HX σ m B) (hm : m ≤ 10) (hBm : B m = β) (hp : 10 ≤ p ∧ p ≤ 40) : OK (m_X12_setRoom p σ) (fun x => x.1 = β 0 ∧ CB x.2 (stI β 0 p) ∧ V0 (stI β 0 p) ∧ HX x.2 (m + 1) (upB B m (stI β 0 p)) ∧ x.2 0 8 = 0 ∧ cfr σ x.2) := by
  have h' := h
  obtain ⟨tB, tV, tR⟩ := h
  have hb := bk_two (σ 0 3)
  unfold m_X12_setRoom
  rw [xj_eq, zI_of (n := p) (by omega) (by omega), if_neg (by omega), if_pos hp.2, xlet_eq, xlet_eq]
  have e0 : σ (bkA (σ 0 3)) 0 = β 0 := tB.1
  rw [e0]
  have hd : ∀ i, i ≠ 0 → stI β 0 p i = β i := fun i hi => stI_ne hi
  have hδ0 : stI β 0 p 0 = p := stI_eq
  obtain ⟨-, v1, v2, v3, v4, v5, v6, v7, v8, v9, vd, vo, vs, vv, vr⟩ := tV
  have hVd : V (stI β 0 p) := ⟨by rw [hδ0]; omega, v1, v2, v3, v4, v5, v6, v7, v8, v9, Vd_c vd v4.2 (fun i hi => hd i (by omega)), Vo_c vo v5.2 (fun i hi => hd i (by omega)), Vs_c vs v7.2 (fun i hi => hd i (by omega)), Vv_c vv v8.2 (fun i hi => hd i (by omega)), Vr_c vr v9.2 (fun i hi => hd i (by omega))⟩
  have tV : V β := h'.2.1
  have h0d : V0 (stI β 0 p) := ⟨by rw [hδ0]; exact hp.2, h0β.2.1, h0β.2.2.1, fun o ho => by rw [show ovF (stI β 0 p) o 0 = ovF β o 0 from hd _ (by omega)]; exact h0β.2.2.2 o (by rw [← hd 5 (by omega)]; exact ho)⟩
  refine OK_mono (a_chg (δ := stI β 0 p) (v := β 0) h' H hm hBm hVd ⟨tV, h0β, Or.inl ⟨rfl, rfl, rfl, fun i hi hne => (hd i hne).symm⟩⟩ (Bk_room tB tV (fun i hi hne => hd i hne) (fun k j c1 c2 c3 => xput_ne c3) (by rw [xput_eq, hδ0])) (RD_same (RD_congr tR tV (fun i hi hh => hd i (by omega))) (fun a j c1 c2 => xput_ne (by omega))) (fun k j hk => xput_ne (by omega))) fun x hx => ⟨hx.1, hx.2.1, h0d, hx.2.2⟩
theorem V0_of (h : V0 β) (hV : V β) (hd : ∀ i, i < 86 → (i = 0 ∨ i = 2 ∨ i = 3 ∨ i = 5 ∨ (70 ≤ i ∧ i % 4 = 2)) → δ i = β i) : V0 δ := by
  have v5 := hV.2.2.2.2.2.1
  refine ⟨by rw [hd _ (by omega) (by omega)]; exact h.1, by rw [hd _ (by omega) (by omega)]; exact h.2.1, by rw [hd _ (by omega) (by omega)]; exact h.2.2.1, fun o' ho' => ?_⟩
  rw [hd 5 (by omega) (by omega)] at ho'
  rw [show ovF δ o' 0 = ovF β o' 0 from hd _ (by omega) (by omega)]
  exact h.2.2.2 o' ho'
theorem a_break (h : CB σ β) (h0β : V0 β) (H : HX σ m B) (hm : m ≤ 10) (hBm : B m = β) (h3 : q = 0 ∨ q = 1) {o : Nat} (c2 : (o : Int) < β 5) : OK (m_X12_breakOven (o : Int) q σ) (fun x => x.1 = 1 ∧ CB x.2 (stI β (70 + 4 * o + 3) q) ∧ V0 (stI β (70 + 4 * o + 3) q) ∧ HX x.2 (m + 1) (upB B m (stI β (70 + 4 * o + 3) q)) ∧ x.2 0 8 = 0 ∧ cfr σ x.2) := by
  have h' := h
  obtain ⟨tB, tV, tR⟩ := h
  have hb := bk_two (σ 0 3)
  unfold m_X12_breakOven
  obtain ⟨v0, v1, v2, v3, v4, v5, v6, v7, v8, v9, vd, vo, vs, vv, vr⟩ := tV
  have tV : V β := h'.2.1
  rw [c_hasOven tB tV (by omega) (by omega)]
  have ho4 : o < 4 := by omega
  have ov := vo o c2
  have ob := tB.2.2.2.2.2.2.2.2.2.2.2.1 o c2 3 (by omega)
  have hd : ∀ i, i ≠ 70 + 4 * o + 3 → stI β (70 + 4 * o + 3) q i = β i := fun i hi => stI_ne hi
  have hδ0 : stI β (70 + 4 * o + 3) q (70 + 4 * o + 3) = q := stI_eq
  generalize stI β (70 + 4 * o + 3) q = δ at hd hδ0 ⊢
  have ev : (if zI (σ (bkA (σ 0 3) + 9 + o) 3) = 0 then (0 : Int) else 1) = ovF β o 3 := by
    rw [ob]
    rcases ov.2.2.2 with e | e
    · rw [e]; rfl
    · rw [e]; rfl
  have hVd : V δ := by
    refine ⟨by rw [hd _ (by omega)]; exact v0, by rw [hd _ (by omega)]; exact v1, by rw [hd _ (by omega)]; exact v2, by rw [hd _ (by omega)]; exact v3, by rw [hd _ (by omega)]; exact v4, by rw [hd _ (by omega)]; exact v5, by rw [hd _ (by omega)]; exact v6, by rw [hd _ (by omega)]; exact v7, by rw [hd _ (by omega)]; exact v8, by rw [hd _ (by omega)]; exact v9, Vd_c vd v4.2 (fun i hi => hd i (by omega)), fun o' ho' => ?_, Vs_c vs v7.2 (fun i hi => hd i (by omega)), Vv_c vv v8.2 (fun i hi => hd i (by omega)), Vr_c vr v9.2 (fun i hi => hd i (by omega))⟩
    rw [hd 5 (by omega)] at ho'
    have oo := vo o' ho'
    have e : ∀ w, w < 3 → ovF δ o' w = ovF β o' w := fun w hw => hd _ (by omega)
    rw [e 0 (by omega), e 1 (by omega), e 2 (by omega)]
    refine ⟨oo.1, oo.2.1, oo.2.2.1, ?_⟩
    by_cases d : o' = o
    · subst d
      rw [show ovF δ o' 3 = q from hδ0]
      exact h3
    · rw [show ovF δ o' 3 = ovF β o' 3 from hd _ (by omega)]
      exact oo.2.2.2
  have h0d : V0 δ := V0_of h0β tV (fun i h1 h2 => hd i (by omega))
  rw [if_pos (show 0 ≤ (o : Int) ∧ (o : Int) < β 5 from ⟨by omega, c2⟩), if_neg (by omega), zI_of (n := (o : Int)) (by omega) (by omega), xck_of (by omega) (by omega), tn_cast, ev, xlet_eq, xck_of (by omega) (by omega), xbo_of h3, xlet_eq]
  refine OK_mono (a_chg (δ := δ) (v := 1) h' H hm hBm hVd ⟨tV, h0β, Or.inr (Or.inl ⟨o, ho4, by rw [hd _ (by omega)]; exact c2, rfl, rfl, rfl, fun i hi hne => (hd i hne).symm⟩)⟩ (Bk_oven ho4 tB tV (fun i hi hne => hd i hne) (fun k j c1 c2 c3 => xput_ne c3) (by rw [xput_eq]; exact hδ0.symm)) (RD_same (RD_congr tR tV (fun i hi hh => hd i (by omega))) (fun a j c1 c2 => xput_ne (by omega))) (fun k j hk => xput_ne (by omega))) fun x hx => ⟨hx.1, hx.2.1, h0d, hx.2.2⟩
theorem a_close (h : CB σ β) (h0β : V0 β) (H : HX σ m B) (hm : m ≤ 10) (hBm : B m = β) (h3 : q = 0 ∨ q = 1) (hn : 4000000 ≤ n) {o : Nat} (c2 : (o : Int) < β 7) : OK (m_X12_closeStreet n (o : Int) q σ) (fun x => x.1 = 1 ∧ CB x.2 (stI β (86 + 4 * o + 3) q) ∧ V0 (stI β (86 + 4 * o + 3) q) ∧ HX x.2 (m + 1) (upB B m (stI β (86 + 4 * o + 3) q)) ∧ x.2 0 8 = 0 ∧ cfr σ x.2) := by
  have h' := h
  obtain ⟨tB, tV, tR⟩ := h
  have hb := bk_two (σ 0 3)
  have v7 := tV.2.2.2.2.2.2.2.1
  have e74 : σ (bkA (σ 0 3) + 39) 4 = β 7 := tB.2.2.2.2.2.2.2.1
  have ho4 : o < 20 := by omega
  have vs := tV.2.2.2.2.2.2.2.2.2.2.2.2.1
  have ov := vs o c2
  have ob := (tB.2.2.2.2.2.2.2.2.2.2.2.2.1 o c2).2.2.2
  have hd : ∀ i, i ≠ 86 + 4 * o + 3 → stI β (86 + 4 * o + 3) q i = β i := fun i hi => stI_ne hi
  have hδ0 : stI β (86 + 4 * o + 3) q (86 + 4 * o + 3) = q := stI_eq
  generalize stI β (86 + 4 * o + 3) q = δ at hd hδ0 ⊢
  have ev : (if zI (σ (bkA (σ 0 3) + 39 + 4) o) = 0 then (0 : Int) else 1) = stF β o 3 := by
    rw [ob]
    rcases ov.2.2.2.2 with e | e
    · rw [e]; rfl
    · rw [e]; rfl
  have hVd : V δ := V_street tV h3 hd hδ0 ho4
  have h0d : V0 δ := V0_of h0β tV (fun i h1 h2 => hd i (by omega))
  unfold m_X12_closeStreet
  rw [xj_eq, zI_of (n := (o : Int)) (by omega) (by omega), if_neg (by omega), e74, zI_of (n := β 7) (by omega) (by omega), if_pos c2, xck_of (by omega) (by omega), tn_cast, ev, xlet_eq]
  refine OK_bind (c_markStreet ho4 tB tV hVd (fun i hi hne => hd i hne) hδ0.symm h3 hn) fun s7 hs => ?_
  obtain ⟨sB, sR, sf⟩ := hs
  refine OK_mono (a_chg (δ := δ) (v := 1) (s := s7) h' H hm hBm hVd ⟨tV, h0β, Or.inr (Or.inr (Or.inl ⟨o, ho4, by rw [hd _ (by omega)]; exact c2, rfl, rfl, rfl, fun i hi hne => (hd i hne).symm⟩))⟩ sB sR sf) fun x hx => ⟨hx.1, hx.2.1, h0d, hx.2.2⟩
/-- an order's field changes -/
theorem V_order {o w : Nat} {v : Int} (hV : V β) (hw : (w = 3 ∧ 0 ≤ v ∧ v ≤ 1439) ∨ (w = 4 ∧ (v = 0 ∨ v = 1))) (hd : ∀ i, i ≠ 169 + 5 * o + w → δ i = β i) (h0 : δ (169 + 5 * o + w) = v) : V δ := by
  obtain ⟨v0, v1, v2, v3, v4, v5, v6, v7, v8, v9, vd, vo, vs, vv, vr⟩ := hV
  refine ⟨by rw [hd _ (by omega)]; exact v0, by rw [hd _ (by omega)]; exact v1, by rw [hd _ (by omega)]; exact v2, by rw [hd _ (by omega)]; exact v3, by rw [hd _ (by omega)]; exact v4, by rw [hd _ (by omega)]; exact v5, by rw [hd _ (by omega)]; exact v6, by rw [hd _ (by omega)]; exact v7, by rw [hd _ (by omega)]; exact v8, by rw [hd _ (by omega)]; exact v9, Vd_c vd v4.2 (fun i hi => hd i (by omega)), Vo_c vo v5.2 (fun i hi => hd i (by omega)), Vs_c vs v7.2 (fun i hi => hd i (by omega)), Vv_c vv v8.2 (fun i hi => hd i (by omega)), fun o' ho' => ?_⟩
  rw [hd 9 (by omega)] at ho'
  have oo := vr o' ho'
  have e : ∀ w, w < 3 → oF δ o' w = oF β o' w := fun w hw => hd _ (by omega)
  rw [e 0 (by omega), e 1 (by omega), e 2 (by omega), hd 6 (by omega), hd 4 (by omega)]
  refine ⟨oo.1, oo.2.1, oo.2.2.1, ?_, ?_⟩
  · by_cases d : o' = o ∧ w = 3
    · obtain ⟨rfl, rfl⟩ := d
      rw [show oF δ o' 3 = v from h0]
      omega
    · rw [show oF δ o' 3 = oF β o' 3 from hd _ (by omega)]
      exact oo.2.2.2.1
  · by_cases d : o' = o ∧ w = 4
    · obtain ⟨rfl, rfl⟩ := d
      rw [show oF δ o' 4 = v from h0]
      omega
    · rw [show oF δ o' 4 = oF β o' 4 from hd _ (by omega)]
      exact oo.2.2.2.2
theorem a_cancel (h : CB σ β) (h0β : V0 β) (H : HX σ m B) (hm : m ≤ 10) (hBm : B m = β) {o : Nat} (c2 : (o : Int) < β 9) (c4 : oF β o 4 = 0) : OK (m_X12_cancelOrder (o : Int) σ) (fun x => x.1 = 1 ∧ CB x.2 (stI β (169 + 5 * o + 4) 1) ∧ V0 (stI β (169 + 5 * o + 4) 1) ∧ HX x.2 (m + 1) (upB B m (stI β (169 + 5 * o + 4) 1)) ∧ x.2 0 8 = 0 ∧ cfr σ x.2) := by
  have h' := h
  obtain ⟨tB, tV, tR⟩ := h
  have hb := bk_two (σ 0 3)
  have v9 := tV.2.2.2.2.2.2.2.2.2.1
  have ho4 : o < 24 := by omega
  unfold m_X12_cancelOrder
  rw [c_hasOrderN tB tV c2, bind_some', if_pos c4]
  have hd : ∀ i, i ≠ 169 + 5 * o + 4 → stI β (169 + 5 * o + 4) 1 i = β i := fun i hi => stI_ne hi
  have hδ0 : stI β (169 + 5 * o + 4) 1 (169 + 5 * o + 4) = 1 := stI_eq
  generalize stI β (169 + 5 * o + 4) 1 = δ at hd hδ0 ⊢
  have hVd : V δ := V_order tV (Or.inr ⟨rfl, Or.inr rfl⟩) hd hδ0
  have h0d : V0 δ := V0_of h0β tV (fun i h1 h2 => hd i (by omega))
  rw [zI_of (n := 1) (by omega) (by omega), if_neg (by omega), zI_of (n := (o : Int)) (by omega) (by omega), xck_of (by omega) (by omega), tn_cast, xlet_eq]
  refine OK_mono (a_chg (δ := δ) (v := 1) h' H hm hBm hVd ⟨tV, h0β, Or.inr (Or.inr (Or.inr (Or.inr (Or.inl ⟨o, ho4, by rw [hd _ (by omega)]; exact c2, rfl, rfl, rfl, c4, fun i hi hne => (hd i hne).symm⟩))))⟩ (Bk_order ho4 (by omega) tB tV (fun i hi hne => hd i hne) (fun k j c1 c2 c3 => xput_ne c3) (by rw [xput_eq]; exact hδ0.symm)) (RD_same (RD_congr tR tV (fun i hi hh => hd i (by omega))) (fun a j c1 c2 => xput_ne (by omega))) (fun k j hk => xput_ne (by omega))) fun x hx => ⟨hx.1, hx.2.1, h0d, hx.2.2⟩
theorem a_cancelNo (h : CB σ β) {o : Nat} (c2 : (o : Int) < β 9) (c4 : oF β o 4 ≠ 0) : m_X12_cancelOrder (o : Int) σ = some (0, σ) := by
  unfold m_X12_cancelOrder
  rw [c_hasOrderN h.1 h.2.1 c2, bind_some', if_neg c4, zI_of (n := 0) (by omega) (by omega), if_pos rfl]
theorem a_move (h : CB σ β) (h0β : V0 β) (H : HX σ m B) (hm : m ≤ 10) (hBm : B m = β) {o : Nat} (c2 : (o : Int) < β 9) (c4 : oF β o 4 = 0) (hq : 0 ≤ q ∧ q ≤ 1439) : OK (m_X12_moveOrder (o : Int) q σ) (fun x => x.1 = oF β o 3 ∧ CB x.2 (stI β (169 + 5 * o + 3) q) ∧ V0 (stI β (169 + 5 * o + 3) q) ∧ HX x.2 (m + 1) (upB B m (stI β (169 + 5 * o + 3) q)) ∧ x.2 0 8 = 0 ∧ cfr σ x.2) := by
  have h' := h
  obtain ⟨tB, tV, tR⟩ := h
  have hb := bk_two (σ 0 3)
  have v9 := tV.2.2.2.2.2.2.2.2.2.1
  have ho4 : o < 24 := by omega
  unfold m_X12_moveOrder
  rw [c_hasOrderN tB tV c2, bind_some', if_pos c4, xj_eq]
  have ob := tB.2.2.2.2.2.2.2.2.2.2.2.2.2.2 o c2 3 (by omega)
  have hd : ∀ i, i ≠ 169 + 5 * o + 3 → stI β (169 + 5 * o + 3) q i = β i := fun i hi => stI_ne hi
  have hδ0 : stI β (169 + 5 * o + 3) q (169 + 5 * o + 3) = q := stI_eq
  generalize stI β (169 + 5 * o + 3) q = δ at hd hδ0 ⊢
  have hVd : V δ := V_order tV (Or.inl ⟨rfl, by omega, hq.2⟩) hd hδ0
  have h0d : V0 δ := V0_of h0β tV (fun i h1 h2 => hd i (by omega))
  rw [zI_of (n := 1) (by omega) (by omega), if_neg (by omega), zI_of (n := q) (by omega) (by omega), if_neg (by omega), if_pos hq.2, zI_of (n := (o : Int)) (by omega) (by omega), xck_of (by omega) (by omega), tn_cast, ob, xlet_eq, xck_of (by omega) (by omega), xlet_eq]
  refine OK_mono (a_chg (δ := δ) (v := oF β o 3) h' H hm hBm hVd ⟨tV, h0β, Or.inr (Or.inr (Or.inr (Or.inr (Or.inr ⟨o, ho4, by rw [hd _ (by omega)]; exact c2, rfl, rfl, rfl, fun i hi hne => (hd i hne).symm⟩))))⟩ (Bk_order ho4 (by omega) tB tV (fun i hi hne => hd i hne) (fun k j c1 c2 c3 => xput_ne c3) (by rw [xput_eq]; exact hδ0.symm)) (RD_same (RD_congr tR tV (fun i hi hh => hd i (by omega))) (fun a j c1 c2 => xput_ne (by omega))) (fun k j hk => xput_ne (by omega))) fun x hx => ⟨hx.1, hx.2.1, h0d, hx.2.2⟩
/-- undoing -/
theorem a_undo (h : CB σ (B (m + 1))) (H : HX σ (m + 1) B) (hm : m ≤ 10) (hn : 4000000 ≤ n) : OK (m_X12_undo n σ) (fun x => x.1 = (m : Int) ∧ CB x.2 (B m) ∧ HX x.2 m B ∧ x.2 0 8 = 0 ∧ cfr σ x.2) := by
  obtain ⟨tB, tV, tR⟩ := h
  obtain ⟨H3, HH⟩ := H
  have hb := bk_two (σ 0 3)
  have hE := HH m (by omega)
  unfold m_X12_undo
  rw [H3, zI_of (n := ((m + 1 : Nat) : Int)) (by omega) (by omega), if_neg (by omega)]
  refine OK_bind (c_takeBack (m := m + 1) (by omega) (by omega) H3 rfl rfl rfl hE tV tB tR hb hn) fun s2 hs => ?_
  obtain ⟨g1, g2, g3, g4⟩ := hs
  rw [show m + 1 - 1 = m by omega] at g1
  unfold m_X12_dropNight
  rw [xlet_eq, bind_some']
  have fr : ∀ k j, ¬ (bkA (σ 0 3) ≤ k ∧ k < bkA (σ 0 3) + 54) → ¬ (k = 114 ∧ j = 3) → ¬ (k = 0 ∧ j = 8) → (xput s2 0 8 0) k j = σ k j := fun k j c1 c2 c3 => by rw [xput_ne c3]; exact g4 k j c1 c2
  have e3 : (xput s2 0 8 0) 0 3 = σ 0 3 := fr _ _ (by omega) (by omega) (by omega)
  refine OK_some ⟨by dsimp only; rw [xput_ne (by omega)]; exact g1, ⟨?_, hE.1, ?_⟩, ⟨by dsimp only; rw [xput_ne (by omega)]; exact g1, fun i hi => ?_⟩, (xput_eq : (xput s2 0 8 0) 0 8 = 0), fun k j c1 c2 c3 => fr k j c1 (by omega) c3⟩
  · dsimp only
    rw [e3]
    exact Bk_same g2 hE.1 (fun k j c1 c2 => xput_ne (by omega))
  · dsimp only
    rw [e3]
    exact RD_same g3 (fun a j c1 c2 => xput_ne (by omega))
  · dsimp only
    rw [fr 115 i (by omega) (by omega) (by omega), fr 116 i (by omega) (by omega) (by omega), fr 117 i (by omega) (by omega) (by omega)]
    exact HH i (by omega)
theorem a_undo0 (h : σ 114 3 = 0) : m_X12_undo n σ = some (-1, σ) := by
  unfold m_X12_undo
  rw [h, zI_of (n := 0) (by omega) (by omega), if_pos rfl]
end CLS9
