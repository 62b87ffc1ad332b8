/-! the class's parser: orders, a statement -/
section TX9
variable {T : Nat → Int} {L p : Nat} {σ τ υ : xS} {n b : Nat} {s : RS0} {f : Int × Nat} {S : PSt} {δ δ' : Nat → Int}
theorem c_readOrder (h : PSC σ b T L S) (hV : PSV T L S) (hb : 6 ≤ b) (hn : 4000000 ≤ n) : OK (m_X7_readOrder n b σ) (fun τ => PRC τ b T L (sOrder T L S) ∧ pfB b σ τ) := by
  obtain ⟨hG, hB, hN1, hN2, hg⟩ := h
  obtain ⟨hV1, hV0, hNV1, hNV2, hgv, hz3, hz7, hz9⟩ := hV
  have v4 := hV1.2.2.2.2.1
  have v5 := hV1.2.2.2.2.2.1
  have v6 := hV1.2.2.2.2.2.2.1
  have v7 := hV1.2.2.2.2.2.2.2.1
  have v8 := hV1.2.2.2.2.2.2.2.2.1
  have v9 := hV1.2.2.2.2.2.2.2.2.2.1
  obtain ⟨b0, b1, b2, b3, b4, b5, b6, b7, b8, b9, bd, bo, bs, bv, br⟩ := hB
  obtain ⟨c, hc⟩ : ∃ c : Nat, S.2.1 9 = (c : Int) := ⟨(S.2.1 9).toNat, by omega⟩
  have ec : (S.2.1 9).toNat = c := by omega
  obtain ⟨m, hm⟩ : ∃ m : Nat, S.2.1 6 = (m : Int) := ⟨(S.2.1 6).toNat, by omega⟩
  have em : (S.2.1 6).toNat = m := by omega
  obtain ⟨k, hk⟩ : ∃ k : Nat, S.2.1 4 = (k : Int) := ⟨(S.2.1 4).toNat, by omega⟩
  have ek : (S.2.1 4).toNat = k := by omega
  rw [em] at hN2 hNV2
  rw [ek] at hN1 hNV1
  unfold m_X7_readOrder
  rw [b9, hc]
  refine OK_bind (c_beginOneOf (most := 24) (cnt := c) hG (by omega) hn) (fun s1 h1 => ?_)
  have e1 : s1 b 8 = (m : Int) := by rw [h1.2 _ _ (by omega) (by omega), b6, hm]
  rw [e1]
  refine OK_xbS (c_readKnownName (k1 := 5) (z1 := 7) (cnt := m) h1.1 (CN_same hN2 (fun j _ => h1.2 _ _ (by omega) (by omega))) hNV2 (by omega) hn) (fun u1 s2 h2 => ?_)
  obtain ⟨⟨r1, w1⟩, r3⟩ := h2
  dsimp only at r1 w1 r3
  have hp2 := pfC_trans h1.2 r3
  have e2 : s2 b 5 = (k : Int) := by rw [hp2 _ _ (by omega) (by omega), b4, hk]
  rw [e2]
  refine OK_xbS (c_readKnownName (k1 := 4) (z1 := 6) (cnt := k) r1 (CN_same hN1 (fun j _ => hp2 _ _ (by omega) (by omega))) hNV1 (by omega) hn) (fun u2 s4 h4 => ?_)
  obtain ⟨⟨x1, x2⟩, x3⟩ := h4
  dsimp only at x1 x2 x3
  have hp4 := pfC_trans hp2 x3
  refine OK_xbS (c_readNumber (lo := 1) (hi := 200) x1 (by omega) hn) (fun u3 s6 h6 => ?_)
  obtain ⟨⟨y1, y2⟩, y3⟩ := h6
  dsimp only at y1 y2 y3
  have hp6 := pfC_trans hp4 y3
  refine OK_xbS (c_readField (w := 22) (lo := 0) (hi := 1439) y1 (by omega) hn) (fun u4 s8 h8 => ?_)
  obtain ⟨⟨z1, z2⟩, z3⟩ := h8
  dsimp only at z1 z2 z3
  have hp8 := pfC_trans hp6 z3
  have eo1 : o1S T L S = bnd (nxS (rBeg T L 24 c S.1)) (rKnw T L S.2.2.2.1 m) := by unfold o1S; rw [ec, em]
  have eo2 : o2S T L S = bnd (nxS (o1S T L S)) (rKnw T L S.2.2.1 k) := by unfold o2S; rw [ek]
  have eo3 : o3S T L S = bnd (nxS (o2S T L S)) (rNum T L 1 200) := rfl
  simp only [← eo1] at w1 x1 x2 y1 y2 z1 z2
  simp only [← eo2] at x1 x2 y1 y2 z1 z2
  simp only [← eo3] at y1 y2 z1 z2
  unfold sOrder
  rw [ec, xj_eq]
  have z1' : CS s8 T L (nxS (bnd (nxS (o3S T L S)) (rFld T L 22 0 1439))) := z1
  have z2' : ∀ q, bnd (nxS (o3S T L S)) (rFld T L 22 0 1439) = .inr q → u4 = q.1 := z2
  cases hr : bnd (nxS (o3S T L S)) (rFld T L 22 0 1439) with
  | inl g =>
    rw [hr] at z1'
    have gx : CX s8 T L g := z1'
    rw [c_failX gx, if_neg (by omega)]
    exact OK_some ⟨gx, fun k j c1 c2 => hp8 k j (by omega) (by omega)⟩
  | inr q =>
    rw [hr] at z1'
    have gg : CG s8 T L q.2 := z1'
    have hv4 := z2' q hr
    obtain ⟨p3, hp31, -⟩ := bnd_inr hr
    obtain ⟨a3, hq3⟩ := nx_inr hp31
    have hu3 : u3 = a3 := y2 _ hq3
    have hq3' := hq3
    rw [eo3] at hq3'
    obtain ⟨p2, hp21, -⟩ := bnd_inr hq3'
    obtain ⟨a2, hq2⟩ := nx_inr hp21
    have hu2 : u2 = a2 := x2 _ hq2
    have hq2' := hq2
    rw [eo2] at hq2'
    obtain ⟨p1, hp11, -⟩ := bnd_inr hq2'
    obtain ⟨a1, hq1⟩ := nx_inr hp11
    have hu1 : u1 = a1 := w1 _ hq1
    have hq1' := hq1
    rw [eo1] at hq1'
    have hlt := beg_r hq1'
    have ea1 : vaS (o1S T L S) = a1 := by rw [hq1]; rfl
    have ea2 : vaS (o2S T L S) = a2 := by rw [hq2]; rfl
    have ea3 : vaS (o3S T L S) = a3 := by rw [hq3]; rfl
    have e13 : s8 b 13 = (c : Int) := by rw [hp8 _ _ (by omega) (by omega), b9, hc]
    rw [c_failG gg, if_pos rfl]
    simp only [e13]
    rw [zI_of (n := (c : Int)) (by omega) (by omega), xck_of (by omega) (by omega), tn_cast]
    unfold m_X5_set
    rw [xlet_eq, xlet_eq, xlet_eq, xlet_eq, xlet_eq, bind_some', xlet_eq, hv4, hu1, hu2, hu3]
    have hrow : ∀ j, j < 5 → ∀ w : Int, (xput (xput (xput (xput (xput (xput s8 (b + 14 + c) 0 a1) (b + 14 + c) 1 a2) (b + 14 + c) 2 a3) (b + 14 + c) 3 q.1) (b + 14 + c) 4 0) b 13 w) (b + 14 + c) j = if j = 0 then a1 else if j = 1 then a2 else if j = 2 then a3 else if j = 3 then q.1 else 0 := fun j hj w => by
      rw [xput_ne (by omega)]
      have : j = 0 ∨ j = 1 ∨ j = 2 ∨ j = 3 ∨ j = 4 := by omega
      rcases this with rfl | rfl | rfl | rfl | rfl
      · rw [xput_ne (by omega), xput_ne (by omega), xput_ne (by omega), xput_ne (by omega), xput_eq]; rfl
      · rw [xput_ne (by omega), xput_ne (by omega), xput_ne (by omega), xput_eq]; rfl
      · rw [xput_ne (by omega), xput_ne (by omega), xput_eq]; rfl
      · rw [xput_ne (by omega), xput_eq]; rfl
      · rw [xput_eq]; rfl
    have hfr0 : ∀ (w : Int) i j, ¬ (i = 2 ∧ (j = 7 ∨ j = 8)) → ¬ (i = 3 ∧ (j = 2 ∨ j = 3 ∨ j = 4)) → i ≠ b + 14 + c → ¬ (i = b ∧ j = 13) → (xput (xput (xput (xput (xput (xput s8 (b + 14 + c) 0 a1) (b + 14 + c) 1 a2) (b + 14 + c) 2 a3) (b + 14 + c) 3 q.1) (b + 14 + c) 4 0) b 13 w) i j = σ i j := fun w i j c1 c2 c3 c4 => by
      rw [xput_ne c4, xput_ne (by omega), xput_ne (by omega), xput_ne (by omega), xput_ne (by omega), xput_ne (by omega)]
      exact hp8 i j c1 c2
    have h13 : (xput (xput (xput (xput (xput s8 (b + 14 + c) 0 a1) (b + 14 + c) 1 a2) (b + 14 + c) 2 a3) (b + 14 + c) 3 q.1) (b + 14 + c) 4 0) b 13 = (c : Int) := by
      rw [xput_ne (by omega), xput_ne (by omega), xput_ne (by omega), xput_ne (by omega), xput_ne (by omega), e13]
    have hCS0 : ∀ w : Int, CG (xput (xput (xput (xput (xput (xput s8 (b + 14 + c) 0 a1) (b + 14 + c) 1 a2) (b + 14 + c) 2 a3) (b + 14 + c) 3 q.1) (b + 14 + c) 4 0) b 13 w) T L q.2 := fun w => CS_same (s := .inr q.2) gg (fun k j hkj => by rw [xput_ne (by omega), xput_ne (by omega), xput_ne (by omega), xput_ne (by omega), xput_ne (by omega), xput_ne (by omega)])
    rw [h13]
    have hrow1 := fun j hj => hrow j hj ((c : Int) + 1)
    have hfr := hfr0 ((c : Int) + 1)
    have hCS := hCS0 ((c : Int) + 1)
    have m13 : (xput (xput (xput (xput (xput (xput s8 (b + 14 + c) 0 a1) (b + 14 + c) 1 a2) (b + 14 + c) 2 a3) (b + 14 + c) 3 q.1) (b + 14 + c) 4 0) b 13 ((c : Int) + 1)) b 13 = (c : Int) + 1 := xput_eq
    generalize xput (xput (xput (xput (xput (xput s8 (b + 14 + c) 0 a1) (b + 14 + c) 1 a2) (b + 14 + c) 2 a3) (b + 14 + c) 3 q.1) (b + 14 + c) 4 0) b 13 ((c : Int) + 1) = τ at hrow1 hfr hCS m13 ⊢
    refine OK_some ⟨?_, fun k j c1 c2 => hfr k j (by omega) (by omega) (by omega) (by omega)⟩
    rw [ea1, ea2, ea3]
    show PSC5 τ b T L q.2 (stI (stI (stI (stI (stI S.2.1 (169 + 5 * c) a1) (169 + 5 * c + 1) a2) (169 + 5 * c + 2) a3) (169 + 5 * c + 3) q.1) 9 (S.2.1 9 + 1)) S.2.2.1 S.2.2.2.1 S.2.2.2.2
    have hd : ∀ i, i ≠ 9 → ¬ (169 + 5 * c ≤ i ∧ i ≤ 169 + 5 * c + 3) → stI (stI (stI (stI (stI S.2.1 (169 + 5 * c) a1) (169 + 5 * c + 1) a2) (169 + 5 * c + 2) a3) (169 + 5 * c + 3) q.1) 9 (S.2.1 9 + 1) i = S.2.1 i := fun i k1 k2 => by
      rw [stI_ne k1, stI_ne (by omega), stI_ne (by omega), stI_ne (by omega), stI_ne (by omega)]
    have hd9 : stI (stI (stI (stI (stI S.2.1 (169 + 5 * c) a1) (169 + 5 * c + 1) a2) (169 + 5 * c + 2) a3) (169 + 5 * c + 3) q.1) 9 (S.2.1 9 + 1) 9 = S.2.1 9 + 1 := stI_eq
    have k0 : stI (stI (stI (stI (stI S.2.1 (169 + 5 * c) a1) (169 + 5 * c + 1) a2) (169 + 5 * c + 2) a3) (169 + 5 * c + 3) q.1) 9 (S.2.1 9 + 1) (169 + 5 * c) = a1 := by rw [stI_ne (by omega), stI_ne (by omega), stI_ne (by omega), stI_ne (by omega), stI_eq]
    have k1 : stI (stI (stI (stI (stI S.2.1 (169 + 5 * c) a1) (169 + 5 * c + 1) a2) (169 + 5 * c + 2) a3) (169 + 5 * c + 3) q.1) 9 (S.2.1 9 + 1) (169 + 5 * c + 1) = a2 := by rw [stI_ne (by omega), stI_ne (by omega), stI_ne (by omega), stI_eq]
    have k2 : stI (stI (stI (stI (stI S.2.1 (169 + 5 * c) a1) (169 + 5 * c + 1) a2) (169 + 5 * c + 2) a3) (169 + 5 * c + 3) q.1) 9 (S.2.1 9 + 1) (169 + 5 * c + 2) = a3 := by rw [stI_ne (by omega), stI_ne (by omega), stI_eq]
    have k3 : stI (stI (stI (stI (stI S.2.1 (169 + 5 * c) a1) (169 + 5 * c + 1) a2) (169 + 5 * c + 2) a3) (169 + 5 * c + 3) q.1) 9 (S.2.1 9 + 1) (169 + 5 * c + 3) = q.1 := by rw [stI_ne (by omega), stI_eq]
    generalize stI (stI (stI (stI (stI S.2.1 (169 + 5 * c) a1) (169 + 5 * c + 1) a2) (169 + 5 * c + 2) a3) (169 + 5 * c + 3) q.1) 9 (S.2.1 9 + 1) = D at hd hd9 k0 k1 k2 k3 ⊢
    refine ⟨hCS, ⟨?_, ?_, ?_, ?_, ?_, ?_, ?_, ?_, ?_, ?_, ?_, ?_, ?_, ?_, ?_⟩, ?_, ?_, fun i hi => ?_⟩
    · rw [hfr _ _ (by omega) (by omega) (by omega) (by omega), hd _ (by omega) (by omega)]; exact b0
    · rw [hfr _ _ (by omega) (by omega) (by omega) (by omega), hd _ (by omega) (by omega)]; exact b1
    · rw [hfr _ _ (by omega) (by omega) (by omega) (by omega), hd _ (by omega) (by omega)]; exact b2
    · rw [hfr _ _ (by omega) (by omega) (by omega) (by omega), hd _ (by omega) (by omega)]; exact b3
    · rw [hfr _ _ (by omega) (by omega) (by omega) (by omega), hd _ (by omega) (by omega)]; exact b4
    · rw [hfr _ _ (by omega) (by omega) (by omega) (by omega), hd _ (by omega) (by omega)]; exact b5
    · rw [hfr _ _ (by omega) (by omega) (by omega) (by omega), hd _ (by omega) (by omega)]; exact b6
    · rw [hfr _ _ (by omega) (by omega) (by omega) (by omega), hd _ (by omega) (by omega)]; exact b7
    · rw [hfr _ _ (by omega) (by omega) (by omega) (by omega), hd _ (by omega) (by omega)]; exact b8
    · rw [m13, hd9, hc]
    · exact keepD bd v4.2 (hd _ (by omega) (by omega)) (fun i j c1 c2 => hfr _ _ (by omega) (by omega) (by omega) (by omega)) (fun i c1 c2 => hd i (by omega) (by omega))
    · exact keepO bo v5.2 (hd _ (by omega) (by omega)) (fun i j c1 c2 => hfr _ _ (by omega) (by omega) (by omega) (by omega)) (fun i c1 c2 => hd i (by omega) (by omega))
    · exact keepS bs v7.2 (hd _ (by omega) (by omega)) (fun i j c1 c2 => hfr _ _ (by omega) (by omega) (by omega) (by omega)) (fun i c1 c2 => hd i (by omega) (by omega))
    · exact keepV bv v8.2 (hd _ (by omega) (by omega)) (fun j => hfr _ _ (by omega) (by omega) (by omega) (by omega)) (fun i c1 c2 => hd i (by omega) (by omega))
    · intro o ho w hw
      rw [hd9, hc] at ho
      by_cases e : o = c
      · subst e
        have z9 := hz9 o (by omega)
        rw [hrow1 w hw]
        show _ = D (169 + 5 * o + w)
        have : w = 0 ∨ w = 1 ∨ w = 2 ∨ w = 3 ∨ w = 4 := by omega
        rcases this with rfl | rfl | rfl | rfl | rfl
        · exact k0.symm
        · exact k1.symm
        · exact k2.symm
        · exact k3.symm
        · rw [hd _ (by omega) (by omega)]
          exact z9.symm
      · rw [hfr _ _ (by omega) (by omega) (by omega) (by omega), br o (by omega) w hw]
        exact (hd _ (by omega) (by omega)).symm
    · rw [hd 4 (by omega) (by omega), ek]
      exact CN_same hN1 (fun j _ => hfr _ _ (by omega) (by omega) (by omega) (by omega))
    · rw [hd 6 (by omega) (by omega), em]
      exact CN_same hN2 (fun j _ => hfr _ _ (by omega) (by omega) (by omega) (by omega))
    · rw [hfr _ _ (by omega) (by omega) (by omega) (by omega)]
      exact hg i hi
/-- a statement without its semicolon -/
def sStm (T : Nat → Int) (L : Nat) (S : PSt) : RSt := if kwF T L S.1 = 0 then sSet T L S 0 10 40 else if kwF T L S.1 = 1 then sSet T L S 1 0 120 else if kwF T L S.1 = 2 then sSet T L S 2 1 4 else if kwF T L S.1 = 3 then sSet T L S 3 1 4 else if kwF T L S.1 = 4 then sDough T L S else if kwF T L S.1 = 15 then sOven T L S else if kwF T L S.1 = 18 then sShop T L S else if kwF T L S.1 = 19 then sStreet T L S else if kwF T L S.1 = 20 then sVan T L S else if kwF T L S.1 = 21 then sOrder T L S else .inl (1, S.1)
/-- its place, or its fault -/
def plS (r : RSt) : RS0 := match r with
  | .inl f => .inl f
  | .inr S => .inr S.1
def stP (S : PSt) (p : Nat) : PSt := (p, S.2)
/-- a statement with its semicolon -/
def sAll (T : Nat → Int) (L : Nat) (S : PSt) : RSt := match sStm T L S with
  | .inl f => .inl f
  | .inr S1 => fin1 (rSem T L S1.1) (fun _ q => stP S1 q)
theorem PRC_cs {r : RSt} (h : PRC σ b T L r) : CS σ T L (plS r) := by
  cases r with
  | inl f => exact h
  | inr S => exact h.1
theorem swt_tab : ∀ w : Fin 24, zI (SWT.getD w.val 0) = if w.val = 0 then 1 else if w.val = 1 then 2 else if w.val = 2 then 3 else if w.val = 3 then 4 else if w.val = 4 then 5 else if w.val = 15 then 6 else if w.val = 18 then 7 else if w.val = 19 then 8 else if w.val = 20 then 9 else if w.val = 21 then 10 else 0 := by decide +kernel
theorem c_readStatement (h : PSC σ b T L S) (hV : PSV T L S) (hb : 6 ≤ b) (hn : 4000000 ≤ n) : OK (m_X7_readStatement n b σ) (fun τ => PRC τ b T L (sAll T L S) ∧ pfB b σ τ) := by
  have hG := h.1
  have hk := kw_bd (T := T) (L := L) (p := S.1)
  unfold m_X7_readStatement
  rw [c_keyword hG.1 hn, bind_some', xwd_of (by omega) (by omega)]
  -- behind the statement itself: the semicolon
  have fin : ∀ τ : xS, PRC τ b T L (sStm T L S) → pfB b σ τ → OK ((m_X7_readSemicolon n τ).bind fun s8 => some s8) (fun τ => PRC τ b T L (sAll T L S) ∧ pfB b σ τ) := fun τ h1 h2 => by
    refine OK_bind (c_readSemicolon (PRC_cs h1) hn) (fun υ g => ?_)
    obtain ⟨g1, g2⟩ := g
    refine OK_some ⟨?_, fun k j c1 c2 => by rw [g2 _ _ (by omega) (by omega)]; exact h2 k j c1 c2⟩
    unfold sAll
    cases hs : sStm T L S with
    | inl f =>
      rw [hs] at g1
      exact g1
    | inr S1 =>
      rw [hs] at g1 h1
      obtain ⟨i1, i2, i3, i4, i5⟩ := h1
      have hV1 : True := trivial
      cases hq : rSem T L S1.1 with
      | inl f =>
        have e : nxS (bnd (plS (.inr S1)) (rSem T L)) = .inl f := by
          show nxS (rSem T L S1.1) = _
          rw [hq]
          rfl
        rw [e] at g1
        show PRC υ b T L (fin1 (rSem T L S1.1) (fun _ q => stP S1 q))
        rw [hq]
        exact g1
      | inr q =>
        have e : nxS (bnd (plS (.inr S1)) (rSem T L)) = .inr q.2 := by
          show nxS (rSem T L S1.1) = _
          rw [hq]
          rfl
        rw [e] at g1
        show PRC υ b T L (fin1 (rSem T L S1.1) (fun _ q => stP S1 q))
        rw [hq]
        show PSC5 υ b T L q.2 S1.2.1 S1.2.2.1 S1.2.2.2.1 S1.2.2.2.2
        refine ⟨g1, ?_, CN_same i3 (fun j _ => g2 _ _ (by omega) (by omega)), CN_same i4 (fun j _ => g2 _ _ (by omega) (by omega)), fun k hk' => by rw [g2 _ _ (by omega) (by omega)]; exact i5 k hk'⟩
        obtain ⟨b0, b1, b2, b3, b4, b5, b6, b7, b8, b9, bd, bo, bs, bv, br⟩ := i2
        exact ⟨by rw [g2 _ _ (by omega) (by omega)]; exact b0, by rw [g2 _ _ (by omega) (by omega)]; exact b1, by rw [g2 _ _ (by omega) (by omega)]; exact b2, by rw [g2 _ _ (by omega) (by omega)]; exact b3, by rw [g2 _ _ (by omega) (by omega)]; exact b4, by rw [g2 _ _ (by omega) (by omega)]; exact b5, by rw [g2 _ _ (by omega) (by omega)]; exact b6, by rw [g2 _ _ (by omega) (by omega)]; exact b7, by rw [g2 _ _ (by omega) (by omega)]; exact b8, by rw [g2 _ _ (by omega) (by omega)]; exact b9, fun d hd w hw => by rw [g2 _ _ (by omega) (by omega)]; exact bd d hd w hw, fun o ho w hw => by rw [g2 _ _ (by omega) (by omega)]; exact bo o ho w hw, fun s hs' => by rw [g2 _ _ (by omega) (by omega), g2 _ _ (by omega) (by omega), g2 _ _ (by omega) (by omega), g2 _ _ (by omega) (by omega)]; exact bs s hs', fun v hv => by rw [g2 _ _ (by omega) (by omega)]; exact bv v hv, fun o ho w hw => by rw [g2 _ _ (by omega) (by omega)]; exact br o ho w hw⟩
  by_cases c0 : kwF T L S.1 = -1
  · rw [if_pos c0]
    have e : sAll T L S = .inl (1, S.1) := by
      unfold sAll sStm
      rw [c0]
      rfl
    rw [e]
    refine OK_bind (c_fail (s := .inr S.1) (c := 1) hG (by omega)) (fun υ g => ?_)
    exact OK_some ⟨g.1, fun k j c1 c2 => g.2 k j (by omega) (by omega)⟩
  · obtain ⟨w, hw⟩ : ∃ w : Nat, kwF T L S.1 = (w : Int) := ⟨(kwF T L S.1).toNat, by omega⟩
    have hw24 : w < 24 := by omega
    have hsw := swt_tab ⟨w, hw24⟩
    dsimp only at hsw
    have hst : sStm T L S = if (w : Int) = 0 then sSet T L S 0 10 40 else if (w : Int) = 1 then sSet T L S 1 0 120 else if (w : Int) = 2 then sSet T L S 2 1 4 else if (w : Int) = 3 then sSet T L S 3 1 4 else if (w : Int) = 4 then sDough T L S else if (w : Int) = 15 then sOven T L S else if (w : Int) = 18 then sShop T L S else if (w : Int) = 19 then sStreet T L S else if (w : Int) = 20 then sVan T L S else if (w : Int) = 21 then sOrder T L S else .inl (1, S.1) := by
      unfold sStm
      rw [hw]
    rw [hw, if_neg (by omega), zI_of (n := (w : Int)) (by omega) (by omega), xck_of (by omega) (by omega), xj_eq, tn_cast, hsw]
    by_cases w0 : w = 0
    · subst w0
      rw [if_pos rfl, if_pos rfl]
      refine c_setting (k := 0) (by omega) h hV hb (by omega) hn (fun τ h1 h2 => fin τ ?_ h2)
      rw [hst]
      exact h1
    rw [if_neg w0]
    by_cases w1 : w = 1
    · subst w1
      rw [if_pos rfl, if_neg (by omega), if_pos rfl]
      refine c_setting (k := 1) (by omega) h hV hb (by omega) hn (fun τ h1 h2 => fin τ ?_ h2)
      rw [hst]
      exact h1
    rw [if_neg w1]
    by_cases w2 : w = 2
    · subst w2
      rw [if_pos rfl, if_neg (by omega), if_neg (by omega), if_pos rfl]
      refine c_setting (k := 2) (by omega) h hV hb (by omega) hn (fun τ h1 h2 => fin τ ?_ h2)
      rw [hst]
      exact h1
    rw [if_neg w2]
    by_cases w3 : w = 3
    · subst w3
      rw [if_pos rfl, if_neg (by omega), if_neg (by omega), if_neg (by omega), if_pos rfl]
      refine c_setting (k := 3) (by omega) h hV hb (by omega) hn (fun τ h1 h2 => fin τ ?_ h2)
      rw [hst]
      exact h1
    rw [if_neg w3]
    by_cases w4 : w = 4
    · subst w4
      rw [if_pos rfl, if_neg (by omega), if_neg (by omega), if_neg (by omega), if_neg (by omega), if_pos rfl]
      refine OK_bind (c_readDough h hV hb hn) (fun τ g => fin τ ?_ g.2)
      rw [hst]
      exact g.1
    rw [if_neg w4]
    by_cases w15 : w = 15
    · subst w15
      rw [if_pos rfl, if_neg (by omega), if_neg (by omega), if_neg (by omega), if_neg (by omega), if_neg (by omega), if_pos rfl]
      refine OK_bind (c_readOven h hV hb hn) (fun τ g => fin τ ?_ g.2)
      rw [hst]
      exact g.1
    rw [if_neg w15]
    by_cases w18 : w = 18
    · subst w18
      rw [if_pos rfl, if_neg (by omega), if_neg (by omega), if_neg (by omega), if_neg (by omega), if_neg (by omega), if_neg (by omega), if_pos rfl]
      refine OK_bind (c_readShop h hV hb hn) (fun τ g => fin τ ?_ g.2)
      rw [hst]
      exact g.1
    rw [if_neg w18]
    by_cases w19 : w = 19
    · subst w19
      rw [if_pos rfl, if_neg (by omega), if_neg (by omega), if_neg (by omega), if_neg (by omega), if_neg (by omega), if_neg (by omega), if_neg (by omega), if_pos rfl]
      refine OK_bind (c_readStreet h hV hb hn) (fun τ g => fin τ ?_ g.2)
      rw [hst]
      exact g.1
    rw [if_neg w19]
    by_cases w20 : w = 20
    · subst w20
      rw [if_pos rfl, if_neg (by omega), if_neg (by omega), if_neg (by omega), if_neg (by omega), if_neg (by omega), if_neg (by omega), if_neg (by omega), if_neg (by omega), if_pos rfl]
      refine OK_bind (c_readVan h hV hb hn) (fun τ g => fin τ ?_ g.2)
      rw [hst]
      exact g.1
    rw [if_neg w20]
    by_cases w21 : w = 21
    · subst w21
      rw [if_pos rfl, if_neg (by omega), if_neg (by omega), if_neg (by omega), if_neg (by omega), if_neg (by omega), if_neg (by omega), if_neg (by omega), if_neg (by omega), if_neg (by omega), if_pos rfl]
      refine OK_bind (c_readOrder h hV hb hn) (fun τ g => fin τ ?_ g.2)
      rw [hst]
      exact g.1
    rw [if_neg w21, if_neg (by omega), if_neg (by omega), if_neg (by omega), if_neg (by omega), if_neg (by omega), if_neg (by omega), if_neg (by omega), if_neg (by omega), if_neg (by omega), if_neg (by omega)]
    refine OK_bind (c_fail (s := .inr S.1) (c := 1) hG (by omega)) (fun υ g => fin υ ?_ (fun k j c1 c2 => g.2 k j (by omega) (by omega)))
    rw [hst, if_neg (by omega), if_neg (by omega), if_neg (by omega), if_neg (by omega), if_neg (by omega), if_neg (by omega), if_neg (by omega), if_neg (by omega), if_neg (by omega), if_neg (by omega)]
    exact g.1
end TX9
