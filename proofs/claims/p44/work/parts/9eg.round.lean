/-! a round of the law -/
section ROUND
variable {σ τ s x y : xS} {T : Nat → Int} {L n : Nat} {δ β : Nat → Int} {S : PSt}
theorem up_5 {a y : Int} (ha : 0 ≤ a) (hy : 5 ≤ y) : 5 * upD a y ≤ a + 4 := by
  obtain ⟨h1, h2, h3⟩ := upD_spec (a := a) (y := y) ha (by omega)
  by_cases c : upD a y = 0
  · omega
  · have h4 : (upD a y - 1) * 5 ≤ (upD a y - 1) * y := Int.mul_le_mul_of_nonneg_left hy (by omega)
    rw [Int.sub_mul, Int.sub_mul, Int.one_mul] at h4
    omega
/-- what the text makes of a bakery -/
theorem TB_of (h : ZS T L [] S 2 1 2 3 1 4) : TB S.2.1 := by
  obtain ⟨-, hP, ⟨⟨a4, a5, a6, a7, a8, a9⟩, ⟨a0, a1⟩, ao⟩, -, -⟩ := h
  obtain ⟨hV, h0, -, -, -, -, -, hf⟩ := hP
  generalize S.2.1 = δ at hV h0 hf a4 a5 a6 a7 a8 a9 a0 a1 ao ⊢
  have vr := hV.2.2.2.2.2.2.2.2.2.2.2.2.2.2
  have vd := hV.2.2.2.2.2.2.2.2.2.2.1
  have hl : ∀ d : Int, loavesF δ d = ((((if oF δ 0 4 = 0 ∧ oF δ 0 1 = d then oF δ 0 2 else 0) + (if oF δ 1 4 = 0 ∧ oF δ 1 1 = d then oF δ 1 2 else 0)) + (if oF δ 2 4 = 0 ∧ oF δ 2 1 = d then oF δ 2 2 else 0)) + (if oF δ 3 4 = 0 ∧ oF δ 3 1 = d then oF δ 3 2 else 0)) := fun d => by
    unfold loavesF
    rw [show (δ 9).toNat = 4 by omega]
    show (((((0 : Int) + _) + _) + _) + _) = _
    rw [Int.zero_add]
  have ho : ∀ i, i < 4 → (0 ≤ (if oF δ i 4 = 0 ∧ oF δ i 1 = 0 then oF δ i 2 else 0) ∧ 0 ≤ (if oF δ i 4 = 0 ∧ oF δ i 1 = 1 then oF δ i 2 else 0)) ∧ (if oF δ i 4 = 0 ∧ oF δ i 1 = 0 then oF δ i 2 else 0) + (if oF δ i 4 = 0 ∧ oF δ i 1 = 1 then oF δ i 2 else 0) ≤ 40 := fun i hi => by
    have v := vr i (by omega)
    have a := ao i hi
    by_cases c : oF δ i 1 = 0
    · rw [if_pos ⟨hf i (by omega), c⟩, if_neg (fun hh => by have := hh.2; omega)]
      omega
    · rw [if_neg (fun hh => c hh.2)]
      split <;> omega
  have h0l := hl 0
  have h1l := hl 1
  have o0 := ho 0 (by omega)
  have o1 := ho 1 (by omega)
  have o2 := ho 2 (by omega)
  have o3 := ho 3 (by omega)
  have hall : allF δ = batchesF δ 0 + batchesF δ 1 := by
    unfold allF
    rw [show (δ 4).toNat = 2 by omega]
    show ((0 : Int) + _) + _ = _
    rw [Int.zero_add]
  have hb : ∀ d : Nat, (d : Int) < 2 → 5 * batchesF δ d ≤ loavesF δ d + 4 := fun d hd => by
    have v := vd d (by omega)
    exact up_5 (loavesF_bd hV _).1 (by omega)
  have b0 : 5 * batchesF δ 0 ≤ loavesF δ 0 + 4 := hb 0 (by omega)
  have b1 : 5 * batchesF δ 1 ≤ loavesF δ 1 + 4 := hb 1 (by omega)
  refine ⟨hV, h0, a0, a1, a4, a5, a6, a7, a8, a9, ?_, fun o ho => hf o (by omega), (ao 0 (by omega)).2⟩
  rw [hall]
  omega
theorem JS_kp (h : JS σ) (hk : kp σ τ) : JS τ := by
  obtain ⟨h1, h2, h3⟩ := h
  refine ⟨by rw [hk 0 1 (by omega)]; exact h1, fun j => by rw [hk 1 j (by omega)]; exact h2 j, ?_⟩
  rw [hk 0 3 (by omega), hk 0 4 (by omega)]
  exact h3
/-- what the law asks of a parsed bakery -/
theorem turn_ok (hJ : JS x) (hC : CB x β) (h114 : x 114 3 = 0) (hT : TB β) (c : Nat → Int) : TurnOK JS c x := by
  have hT' := hT
  obtain ⟨hV, h0, t0, t1, t4, t5, t6, t7, t8, t9, h60, to, t3⟩ := hT
  have hn : 4000000 ≤ 4000000 := Nat.le_refl _
  have hall := allF_bd hV
  have hbl := blN hC
  have hbw := bw_le (x := c 12) (show 0 ≤ 900 by omega)
  have c0 : CK x x β := ⟨hC, h114, fun _ _ _ => rfl⟩
  have hoc : m_X12_orderCount x = 4 := by
    unfold m_X12_orderCount
    rw [hC.1.2.2.2.2.2.2.2.2.2.1, t9]
  have hbc : m_X12_batchCount 4000000 x = some (allF β) := by rw [c_batchCount hC.1 hV hn, if_pos h60]
  have rest : ∀ s1 : xS, CK x s1 β → ∃ s2 s3 s4, m_L_isMoved 4000000 ((bw (c 12) 0 900 : Nat) : Int) s1 = some (1, s2) ∧ m_L_isLatest 4000000 s2 = some (1, s3) ∧ m_L_isUndone 4000000 (c 13) s3 = some (1, s4) ∧ JS s4 := fun s1 k1 => by
    obtain ⟨⟨v2, s2⟩, e2, f2, g2, i2⟩ := l_isMoved (f := ((bw (c 12) 0 900 : Nat) : Int)) k1.1 hn (by omega) h60 t9
    dsimp only at f2 g2 i2
    subst f2
    have k2 := CK_sim k1 g2 i2
    obtain ⟨⟨v3, s3⟩, e3, f3, k3⟩ := l_isLatest k2 hT' hn
    dsimp only at f3 k3
    subst f3
    obtain ⟨⟨v4, s4⟩, e4, f4, k4⟩ := l_isUndone (p := c 13) k3 hT' hn
    dsimp only at f4 k4
    subst f4
    exact ⟨s2, s3, s4, e2, e3, e4, JS_kp hJ k4.2.2⟩
  by_cases hp : 0 < allF β
  · obtain ⟨⟨v1, s1⟩, e1, f1, g1, g1', i1⟩ := l_isNight (f := ((bw (c 12) 0 900 : Nat) : Int)) hC hn (by omega) h60 t5 t4 t9 t1 (by omega)
    dsimp only at f1 g1 g1' i1
    subst f1
    obtain ⟨s2, s3, s4, h2, h3, h4, h5⟩ := rest s1 (CK_sim c0 g1 i1)
    exact ⟨allF β, s1, s2, s3, s4, hoc, hbc, by omega, fun _ => e1, fun hh => absurd hp hh, h2, h3, h4, h5⟩
  · obtain ⟨s2, s3, s4, h2, h3, h4, h5⟩ := rest x c0
    exact ⟨allF β, x, s2, s3, s4, hoc, hbc, by omega, fun hh => absurd hh hp, fun _ => rfl, h2, h3, h4, h5⟩
theorem dn_4 (v : Nat) : (dec v).length ≤ 4 := by
  rw [dec_len]
  unfold dn
  split
  · omega
  · split
    · omega
    · split <;> omega
theorem lnA {a b : List Int32} {n m : Nat} (h1 : a.length ≤ n) (h2 : b.length ≤ m) : (a ++ b).length ≤ n + m := by
  rw [List.length_append]
  omega
theorem ln_lb : ∀ i, i < 27 → (lb i).length ≤ 20 := by decide +kernel
theorem ln_i {i : Nat} (h : i < 27) : (lb i).length ≤ 20 := ln_lb i h
theorem ln_dT (x : Int) : (dT x).length ≤ 240 := by
  unfold dT
  refine Nat.le_trans (lnA (lnA (lnA (lnA (lnA (lnA (lnA (lnA (lnA (lnA (lnA (lnA (lnA (lnA (lnA (lnA (lnA (lnA (lnA (lnA (Nat.le_refl 0) (ln_i (by omega))) (dn_4 _)) (ln_i (by omega))) (dn_4 _)) (ln_i (by omega))) (dn_4 _)) (ln_i (by omega))) (dn_4 _)) (ln_i (by omega))) (dn_4 _)) (ln_i (by omega))) (dn_4 _)) (ln_i (by omega))) (dn_4 _)) (ln_i (by omega))) (dn_4 _)) (ln_i (by omega))) (dn_4 _)) (ln_i (by omega))) (dn_4 _)) (by omega)
theorem ln_oT {t : List Int32} {n : Nat} (h : t.length ≤ n) (z : Int) : (oT t z).length ≤ n + 108 := by
  unfold oT
  refine Nat.le_trans (lnA (lnA (lnA (lnA (lnA (lnA (lnA h (ln_i (by omega))) (ln_i (by split <;> omega))) (ln_i (by split <;> omega))) (dn_4 _)) (ln_i (by omega))) (dn_4 _)) (ln_i (by omega))) (by omega)
theorem ln_bT (c : Nat → Int) : (bT c).length ≤ 1600 := by
  have h0 : (bT0 c).length ≤ 570 := by
    unfold bT0
    exact Nat.le_trans (lnA (lnA (lnA (lnA (lnA (lnA (lnA (Nat.le_refl 0) (ln_i (by omega))) (dn_4 _)) (ln_i (by omega))) (ln_dT _)) (ln_i (by omega))) (ln_dT _)) (ln_i (by omega))) (by omega)
  have h1 : (bT1 c).length ≤ 850 := by
    unfold bT1
    exact Nat.le_trans (lnA (lnA (lnA (lnA (lnA (lnA (lnA (lnA (lnA (lnA (lnA (lnA (lnA (lnA (lnA (lnA (lnA (lnA h0 (ln_i (by omega))) (dn_4 _)) (ln_i (by omega))) (dn_4 _)) (ln_i (by omega))) (dn_4 _)) (ln_i (by omega))) (ln_i (by omega))) (ln_i (by omega))) (dn_4 _)) (ln_i (by omega))) (dn_4 _)) (ln_i (by omega))) (dn_4 _)) (ln_i (by omega))) (ln_i (by omega))) (dn_4 _)) (ln_i (by omega))) (by omega)
  unfold bT
  exact Nat.le_trans (ln_oT (ln_oT (ln_oT (ln_oT h1 _) _) _) _) (by omega)
/-- the letters that the class holds are the text -/
theorem at_u {u : List Int32} (ha : aL u) (h : ∀ j, j < u.length → T j = (ch u j : Int)) : Atx T u.length (u.map Int32.toInt) 0 := by
  refine ⟨by rw [List.length_map]; omega, fun j hj => ?_⟩
  rw [List.length_map] at hj
  have ha := ha j hj
  have hg : (u.map Int32.toInt).getD j 0 = (u.getD j 0).toInt := by
    rw [List.getD_eq_getElem?_getD, List.getElem?_map, List.getD_eq_getElem?_getD, List.getElem?_eq_getElem hj]
    rfl
  rw [Nat.zero_add, h j hj, hg]
  unfold ch
  rw [if_pos hj]
  omega
theorem at_bT {c : Nat → Int} (h : SP (bT c) σ y (bT c).length) : Atx (y 1) (bT c).length (xT c) 0 := by
  have := at_u (T := y 1) (aL_bT c) h.2.1
  rw [bT_map] at this
  exact this
theorem parse_14 {b : Nat} (hT : ∀ q, -128 ≤ y 1 q ∧ y 1 q ≤ 127) (hL : L ≤ 1600) (hb : 6 ≤ b) (hrun : sRun (y 1) L L 0 (S0 (y 1) L) = .inr (14, S)) : OK (m_X7_parse 4000000 (L : Int) b y) (fun x => x.1 = 14 ∧ Bk x.2 b S.2.1 0 ∧ RD x.2 (b + 39) S.2.1 ∧ pfP b y x.2) := by
  refine OK_mono (c_parse (T := y 1) (L := L) (b := b) hT rfl hL hb (Nat.le_refl _)) (fun x g => ?_)
  rw [hrun] at g
  exact ⟨g.1.1, g.1.2.1.2.1, g.1.2.2, g.2⟩
theorem round_ok (c : Nat → Int) (σ : xS) (hJ : JS σ) : RoundOK JS c σ := by
  obtain ⟨j1, j2, j3⟩ := hJ
  refine ⟨⟨j1, fun j hj => absurd hj (Nat.not_lt_zero _), j2, fun _ _ _ _ => rfl⟩, fun y hS => ?_⟩
  have hA := at_bT hS
  have hL := ln_bT c
  obtain ⟨s1, -, s3, s4⟩ := hS
  generalize (bT c).length = L at hA hL s1
  obtain ⟨S, hrun, hZ⟩ := run_14 c hA
  have y3 : y 0 3 = σ 0 3 := s4 _ _ (by omega) (by omega)
  have y4 : y 0 4 = σ 0 4 := s4 _ _ (by omega) (by omega)
  have hb := bk_two (y 0 4)
  have hTB := TB_of hZ
  unfold m_X12_parseBakery
  rw [s1]
  refine OK_xbS (parse_14 (b := bkA (y 0 4)) s3 hL (by omega) hrun) (fun v t g => ?_)
  obtain ⟨g3, g4, g5, g2⟩ := g
  dsimp only at g2 g3 g4 g5
  subst g3
  have t3 : t 0 3 = y 0 3 := g2 _ _ (by omega) (by omega)
  have t4 : t 0 4 = y 0 4 := g2 _ _ (by omega) (by omega)
  rw [xlet_eq, zI_of (n := 14) (by omega) (by omega), if_neg (by omega), xlet_eq, xlet_eq]
  unfold m_X3_forget m_X12_dropNight
  rw [xlet_eq, bind_some', xlet_eq, bind_some']
  have hf : ∀ k j, ¬ (k = 0 ∧ (j = 1 ∨ j = 3 ∨ j = 4 ∨ j = 8)) → ¬ (k = 114 ∧ j = 3) → (xput (xput (xput (xput (xput t 0 1 0) 0 3 ((xput t 0 1 0) 0 4)) 0 4 ((xput t 0 1 0) 0 3)) 114 3 0) 0 8 0) k j = t k j := fun k j c1 c2 => by
    rw [xput_ne (by omega), xput_ne (by omega), xput_ne (by omega), xput_ne (by omega), xput_ne (by omega)]
  have f1 : (xput (xput (xput (xput (xput t 0 1 0) 0 3 ((xput t 0 1 0) 0 4)) 0 4 ((xput t 0 1 0) 0 3)) 114 3 0) 0 8 0) 0 1 = 0 := by
    rw [xput_ne (by omega), xput_ne (by omega), xput_ne (by omega), xput_ne (by omega), xput_eq]
  have f3 : (xput (xput (xput (xput (xput t 0 1 0) 0 3 ((xput t 0 1 0) 0 4)) 0 4 ((xput t 0 1 0) 0 3)) 114 3 0) 0 8 0) 0 3 = y 0 4 := by
    rw [xput_ne (by omega), xput_ne (by omega), xput_ne (by omega), xput_eq, xput_ne (by omega), t4]
  have f4 : (xput (xput (xput (xput (xput t 0 1 0) 0 3 ((xput t 0 1 0) 0 4)) 0 4 ((xput t 0 1 0) 0 3)) 114 3 0) 0 8 0) 0 4 = y 0 3 := by
    rw [xput_ne (by omega), xput_ne (by omega), xput_eq, xput_ne (by omega), t3]
  have f5 : (xput (xput (xput (xput (xput t 0 1 0) 0 3 ((xput t 0 1 0) 0 4)) 0 4 ((xput t 0 1 0) 0 3)) 114 3 0) 0 8 0) 114 3 = 0 := by
    rw [xput_ne (by omega), xput_eq]
  generalize xput (xput (xput (xput (xput t 0 1 0) 0 3 ((xput t 0 1 0) 0 4)) 0 4 ((xput t 0 1 0) 0 3)) 114 3 0) 0 8 0 = x at hf f1 f3 f4 f5
  refine OK_some ⟨rfl, turn_ok ⟨f1, fun j => ?_, ?_⟩ ⟨?_, hTB.1, ?_⟩ f5 hTB c⟩
  · rw [hf _ _ (by omega) (by omega), g2 _ _ (by omega) (by omega)]
    exact s3 j
  · rw [f3, f4, y3, y4]
    rcases j3 with ⟨a, b⟩ | ⟨a, b⟩
    · exact Or.inr ⟨b, a⟩
    · exact Or.inl ⟨b, a⟩
  · rw [f3]
    exact Bk_same g4 hTB.1 (fun k j c1 c2 => hf k j (by omega) (by omega))
  · rw [f3]
    exact RD_same g5 (fun a j c1 c2 => hf a j (by omega) (by omega))
end ROUND
