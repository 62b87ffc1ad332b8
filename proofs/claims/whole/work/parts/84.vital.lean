/-! the vital street: both -/
section VIT
variable {σ τ : xS} {k n i b : Nat} {β γ : Nat → Int} {e f : Int}
theorem Bk_low (h : Bk σ b β e) (hV : V β) (hf : ∀ k j, b ≤ k → k < b + 45 → τ k j = σ k j) : Bk τ b β e := by
  obtain ⟨b0, b1, b2, b3, b4, b5, b6, b7, b8, b9, bd, bo, bs, bv, br⟩ := h
  obtain ⟨v0, v1, v2, v3, v4, v5, v6, v7, v8, v9, -⟩ := hV
  refine ⟨by rw [hf _ _ (by omega) (by omega)]; exact b0, by rw [hf _ _ (by omega) (by omega)]; exact b1, by rw [hf _ _ (by omega) (by omega)]; exact b2, by rw [hf _ _ (by omega) (by omega)]; exact b3, by rw [hf _ _ (by omega) (by omega)]; exact b4, by rw [hf _ _ (by omega) (by omega)]; exact b5, by rw [hf _ _ (by omega) (by omega)]; exact b6, by rw [hf _ _ (by omega) (by omega)]; exact b7, by rw [hf _ _ (by omega) (by omega)]; exact b8, by rw [hf _ _ (by omega) (by omega)]; exact b9, fun d hd w hw => by rw [hf _ _ (by omega) (by omega)]; exact bd d hd w hw, fun o ho w hw => by rw [hf _ _ (by omega) (by omega)]; exact bo o ho w hw, fun s hs => by rw [hf _ _ (by omega) (by omega), hf _ _ (by omega) (by omega), hf _ _ (by omega) (by omega), hf _ _ (by omega) (by omega)]; exact bs s hs, fun v hv => by rw [hf _ _ (by omega) (by omega)]; exact bv v hv, fun o ho w hw => by rw [hf _ _ (by omega) (by omega)]; exact br o ho w hw⟩
/-- the trial row, and with a street closed -/
def rwF (β ρ : Nat → Int) (i : Nat) : Int := if i < 289 then β i else ρ i
def clF (β ρ : Nat → Int) (s i : Nat) : Int := if i = 86 + 4 * s + 3 then 1 else rwF β ρ i
theorem rw_eq (β ρ : Nat → Int) : Eq289 β (rwF β ρ) := fun i hi => if_pos hi
theorem rw_Ag (β ρ : Nat → Int) : Ag β (rwF β ρ) := fun i hi _ => if_pos hi
theorem cl_Ag {ρ : Nat → Int} {s : Nat} (hs : s < 20) : Ag β (clF β ρ s) := fun i hi h => by
  unfold clF
  rw [if_neg (by omega)]
  exact if_pos hi
theorem cl_st {ρ : Nat → Int} {s t w : Nat} (ht : t < 20) (hw : w < 4) : stF (clF β ρ s) t w = if t = s ∧ w = 3 then 1 else stF β t w := by
  show clF β ρ s (86 + 4 * t + w) = _
  unfold clF rwF
  by_cases q : t = s ∧ w = 3
  · rw [if_pos q, if_pos (by omega)]
  · rw [if_neg q, if_neg (by omega), if_pos (by omega)]
theorem cl_V {ρ : Nat → Int} {s : Nat} (hV : V β) (hs : s < 20) : V (clF β ρ s) := by
  have hA := cl_Ag (β := β) (ρ := ρ) hs
  obtain ⟨v0, v1, v2, v3, v4, v5, v6, v7, v8, v9, vd, vo, vs, vv, vr⟩ := hV
  have g : ∀ i, i < 86 → clF β ρ s i = β i := fun i hi => hA i (by omega) (by omega)
  have g4 := g 4 (by omega)
  have g5 := g 5 (by omega)
  have g6 := g 6 (by omega)
  have g7 := g 7 (by omega)
  have g8 := g 8 (by omega)
  have g9 := g 9 (by omega)
  refine ⟨by rw [g 0 (by omega)]; exact v0, by rw [g 1 (by omega)]; exact v1, by rw [g 2 (by omega)]; exact v2, by rw [g 3 (by omega)]; exact v3, by rw [g4]; exact v4, by rw [g5]; exact v5, by rw [g6]; exact v6, by rw [g7]; exact v7, by rw [g8]; exact v8, by rw [g9]; exact v9, fun d hd => ?_, fun o ho => ?_, fun t ht => ?_, fun v hv => ?_, fun o ho => ?_⟩
  · rw [g4] at hd
    have := vd d hd
    have e : ∀ w, w < 10 → dF (clF β ρ s) d w = dF β d w := fun w hw => g _ (by omega)
    rw [e 0 (by omega), e 1 (by omega), e 2 (by omega), e 3 (by omega), e 4 (by omega), e 5 (by omega), e 6 (by omega), e 7 (by omega), e 8 (by omega), e 9 (by omega)]
    exact this
  · rw [g5] at ho
    have := vo o ho
    have e : ∀ w, w < 4 → ovF (clF β ρ s) o w = ovF β o w := fun w hw => g _ (by omega)
    rw [e 0 (by omega), e 1 (by omega), e 2 (by omega), e 3 (by omega)]
    exact this
  · rw [g7] at ht
    have := vs t ht
    rw [cl_st (by omega) (by omega), cl_st (by omega) (by omega), cl_st (by omega) (by omega), cl_st (by omega) (by omega), if_neg (by omega), if_neg (by omega), if_neg (by omega), g6]
    refine ⟨this.1, this.2.1, this.2.2.1, this.2.2.2.1, ?_⟩
    split
    · exact Or.inr rfl
    · exact this.2.2.2.2
  · rw [g8] at hv
    have := vv v hv
    rw [show vnF (clF β ρ s) v = vnF β v from hA _ (by omega) (by omega)]
    exact this
  · rw [g9] at ho
    have := vr o ho
    have e : ∀ w, w < 5 → oF (clF β ρ s) o w = oF β o w := fun w hw => hA _ (by omega) (by omega)
    rw [e 0 (by omega), e 1 (by omega), e 2 (by omega), e 3 (by omega), e 4 (by omega), g6, g4]
    exact this
theorem rw_lt {ρ : Nat → Int} (hV : V β) : ltV (rwF β ρ) β 0 = ltV β β 0 := by
  have h1 : dsF (rwF β ρ) = dsF β := ds_congr (fun i hi => if_pos (by omega)) hV
  have h2 : vcF (rwF β ρ) 0 = vcF β 0 := by
    funext v
    unfold vcF
    by_cases c : v < 3
    · rw [if_pos c, if_pos c, show vnF (rwF β ρ) v = vnF β v from if_pos (by omega)]
    · rw [if_neg c, if_neg c]
  unfold ltV
  show (if _ then qT (dsF (rwF β ρ), (β 6).toNat, rdC 0 β (Mf (prm β)).1 (β 9).toNat, duC 1439 β (β 9).toNat, ldC β (β 9).toNat, vcF (rwF β ρ) 0, srvF β (Mf (prm β)).1, (β 8).toNat) else -1) = _
  rw [h1, h2]
/-- earliest, and the street found, behind the first ones -/
def vtF (β ρ : Nat → Int) : Nat → Int × Int
  | 0 => (ltV β β 0, -1)
  | s + 1 => if stF β s 3 = 1 then vtF β ρ s else if ltV (clF β ρ s) β 0 < (vtF β ρ s).1 then (ltV (clF β ρ s) β 0, (s : Int)) else vtF β ρ s
theorem vt_bd {ρ : Nat → Int} (hV : V β) (h60 : allF β ≤ 60) : ∀ s, s ≤ 20 → (-1 ≤ (vtF β ρ s).1 ∧ (vtF β ρ s).1 ≤ 1439) ∧ (-1 ≤ (vtF β ρ s).2 ∧ (vtF β ρ s).2 < 20)
  | 0, _ => by
    have := ltV_bd (β := β) (γ := β) (e := 0) (fun _ _ _ => rfl) hV hV h60 (Or.inl rfl)
    show (-1 ≤ ltV β β 0 ∧ ltV β β 0 ≤ 1439) ∧ ((-1 : Int) ≤ -1 ∧ (-1 : Int) < 20)
    omega
  | s + 1, hs => by
    have ih := vt_bd (ρ := ρ) hV h60 s (by omega)
    have := ltV_bd (β := β) (γ := clF β ρ s) (e := 0) (cl_Ag (by omega)) (cl_V hV (by omega)) hV h60 (Or.inl rfl)
    rw [vtF]
    split
    · exact ih
    · split
      · dsimp only
        omega
      · exact ih
theorem vt_none {ρ : Nat → Int} (hV : V β) (h60 : allF β ≤ 60) (h : ltV β β 0 = -1) : ∀ s, s ≤ 20 → vtF β ρ s = (-1, -1)
  | 0, _ => by rw [vtF, h]
  | s + 1, hs => by
    have ih := vt_none (ρ := ρ) hV h60 h s (by omega)
    have := ltV_bd (β := β) (γ := clF β ρ s) (e := 0) (cl_Ag (by omega)) (cl_V hV (by omega)) hV h60 (Or.inl rfl)
    rw [vtF, ih]
    split
    · rfl
    · rw [if_neg (by dsimp only; omega)]
theorem r_vitalLoop {ρ : Nat → Int} (hV : V β) (h60 : allF β ≤ 60) (hI : NI σ 187 β (rwF β ρ) 0) (hn : 4000000 ≤ n) :
    OK (loopF (fun rec10 (t9 : Int × Int × Int × xS) => xck 7 289 <| if (zI (t9.2.2.2 187 (7 : Int).toNat)) ≤ (zI t9.2.2.1) then some (t9.2.1, t9.2.2.2) else (m_X13_street 187 t9.2.2.1 3 t9.2.2.2).bind fun v13 => xj (fun (q16 : Int × Int × xS) => xlet (t9.2.2.1 + 1) fun v17 => rec10 (q16.1, q16.2.1, v17, q16.2.2)) fun J14 => if (zI v13) = 1 then J14 (t9.1, t9.2.1, t9.2.2.2) else xck (zI ((86 + (4 * t9.2.2.1)) + 3)) 289 <| xlet (xput t9.2.2.2 187 (zI ((86 + (4 * t9.2.2.1)) + 3)).toNat 1) fun s19 => xbS (m_X13_latest n 187 s19) fun v21 s20 => xck (zI ((86 + (4 * t9.2.2.1)) + 3)) 289 <| xlet (xput s20 187 (zI ((86 + (4 * t9.2.2.1)) + 3)).toNat 0) fun s22 => if (zI v21) < (zI t9.1) then J14 (v21, t9.2.2.1, s22) else J14 (t9.1, t9.2.1, s22)) n (ltV β β 0, -1, 0, σ))
      (fun x => x.1 = (vtF β ρ (β 7).toNat).2 ∧ ∀ a j, a ≠ 187 → ¬ (205 ≤ a ∧ a ≤ 214) → ¬ (a = 184 ∧ (j = 42 ∨ j = 46 ∨ j = 47 ∨ j = 52 ∨ j = 53)) → x.2 a j = σ a j) := by
  have v7 := hV.2.2.2.2.2.2.2.1
  refine loop_for (β 7).toNat (fun s (t : Int × Int × Int × xS) => t.1 = (vtF β ρ s).1 ∧ t.2.1 = (vtF β ρ s).2 ∧ t.2.2.1 = (s : Int) ∧ t.2.2.2 187 = rwF β ρ ∧ (∀ a j, a ≠ 187 → ¬ (205 ≤ a ∧ a ≤ 214) → ¬ (a = 184 ∧ (j = 42 ∨ j = 46 ∨ j = 47 ∨ j = 52 ∨ j = 53)) → t.2.2.2 a j = σ a j)) ?_ ?_ (by omega) ⟨rfl, rfl, rfl, hI.2.1, fun _ _ _ _ _ => rfl⟩
  · rintro s ⟨u, w, x, t⟩ hs ⟨g0, g1, g2, g3, g4⟩ rec hrec
    dsimp only at g0 g1 g2 g3 g4 hrec ⊢
    subst g0 g1 g2
    have vs := hV.2.2.2.2.2.2.2.2.2.2.2.2.1 s (by omega)
    have e7 : t 187 (7 : Int).toNat = β 7 := by rw [g3]; exact if_pos (by decide)
    have hst := r_street3 (σ := t) (k := 187) (i := s) (by omega)
    rw [g3, show stF (rwF β ρ) s 3 = stF β s 3 from if_pos (by omega)] at hst
    have hvb := vt_bd (ρ := ρ) hV h60 s (by omega)
    have hnx : vtF β ρ (s + 1) = if stF β s 3 = 1 then vtF β ρ s else if ltV (clF β ρ s) β 0 < (vtF β ρ s).1 then (ltV (clF β ρ s) β 0, (s : Int)) else vtF β ρ s := rfl
    rw [xck_of (by omega) (by omega)]
    simp only [e7]
    rw [zI_of (n := β 7) (by omega) (by omega), zI_of (n := (s : Int)) (by omega) (by omega), if_neg (by omega), hst, bind_some', xj_eq, zI_of (n := stF β s 3) (by omega) (by omega)]
    by_cases c : stF β s 3 = 1
    · rw [if_pos c] at hnx
      rw [if_pos c]
      simp only [xlet_eq]
      exact hrec _ ⟨by rw [hnx], by rw [hnx], by (try dsimp only); omega, g3, g4⟩
    · rw [if_neg c] at hnx
      have hVc := cl_V (ρ := ρ) (s := s) hV (by omega)
      have hlb := ltV_bd (β := β) (γ := clF β ρ s) (e := 0) (cl_Ag (by omega)) hVc hV h60 (Or.inl rfl)
      rw [if_neg c, zI_of (n := 86 + 4 * (s : Int) + 3) (by omega) (by omega), xck_of (by omega) (by omega), show (86 + 4 * (s : Int) + 3).toNat = 86 + 4 * s + 3 by omega, xlet_eq]
      have hc1 : (xput t 187 (86 + 4 * s + 3) 1) 187 = clF β ρ s := by
        funext j
        unfold clF
        by_cases d : j = 86 + 4 * s + 3
        · rw [d, xput_eq, if_pos rfl]
        · rw [xput_ne (by omega), if_neg d, g3]
      have hI1 : NI (xput t 187 (86 + 4 * s + 3) 1) 187 β (clF β ρ s) 0 := by
        obtain ⟨n1, n2, n3, n4, n5, n6, n7, n8⟩ := hI
        refine ⟨n1, hc1, cl_Ag (by omega), hVc, hV, h60, RG_same n7 (fun a j h => by rw [xput_ne (by omega)]; exact g4 a j (by omega) (by omega) (by omega)), Or.inl ⟨rfl, ?_⟩⟩
        rw [xput_ne (by omega), g4 _ _ (by omega) (by omega) (by omega)]
        rcases n8 with z | z
        · exact z.2
        · omega
      refine OK_xbS (r_latest hI1 hn) (fun v s20 h => ?_)
      obtain ⟨y1, y2⟩ := h
      dsimp only at y1 y2
      have y1' : v = ltV (clF β ρ s) β 0 := y1
      subst y1'
      have hb0 : (xput s20 187 (86 + 4 * s + 3) 0) 187 = rwF β ρ := by
        funext j
        by_cases d : j = 86 + 4 * s + 3
        · rw [d, xput_eq]
          have : rwF β ρ (86 + 4 * s + 3) = stF β s 3 := if_pos (by omega)
          omega
        · rw [xput_ne (by omega), y2 _ _ (by omega) (by omega), xput_ne (by omega), g3]
      have hbf : ∀ a j, a ≠ 187 → ¬ (205 ≤ a ∧ a ≤ 214) → ¬ (a = 184 ∧ (j = 42 ∨ j = 46 ∨ j = 47 ∨ j = 52 ∨ j = 53)) → (xput s20 187 (86 + 4 * s + 3) 0) a j = σ a j := fun a j c1 c2 c3 => by
        rw [xput_ne (by omega), y2 _ _ c2 c3, xput_ne (by omega)]
        exact g4 a j c1 c2 c3
      rw [xck_of (by omega) (by omega), xlet_eq, zI_of (n := ltV (clF β ρ s) β 0) (by omega) (by omega), zI_of (n := (vtF β ρ s).1) (by omega) (by omega)]
      by_cases d : ltV (clF β ρ s) β 0 < (vtF β ρ s).1
      · rw [if_pos d] at hnx
        rw [if_pos d]
        simp only [xlet_eq]
        exact hrec _ ⟨by rw [hnx], by rw [hnx], by (try dsimp only); omega, hb0, hbf⟩
      · rw [if_neg d] at hnx
        rw [if_neg d]
        simp only [xlet_eq]
        exact hrec _ ⟨by rw [hnx], by rw [hnx], by (try dsimp only); omega, hb0, hbf⟩
  · rintro ⟨u, w, x, t⟩ ⟨g0, g1, g2, g3, g4⟩ rec
    dsimp only at g0 g1 g2 g3 g4 ⊢
    subst g0 g1 g2
    have e7 : t 187 (7 : Int).toNat = β 7 := by rw [g3]; exact if_pos (by decide)
    rw [xck_of (by omega) (by omega)]
    simp only [e7]
    rw [zI_of (n := β 7) (by omega) (by omega), zI_of (n := (((β 7).toNat : Nat) : Int)) (by omega) (by omega), if_pos (by omega)]
    exact OK_some ⟨rfl, g4⟩
/-- what the vital street may change of the class: the ways are measured anew too -/
def bfr3 (σ τ : xS) : Prop := ∀ a j, ¬ (139 ≤ a ∧ a ≤ 183) → ¬ (a = 0 ∧ j = 9) → ¬ (51 ≤ a ∧ a ≤ 59) → ¬ (105 ≤ a ∧ a ≤ 113) → τ a j = σ a j
def BOTH3 (σ : xS) (β : Nat → Int) (c : Option (Int × xS)) (r : xS → Option (Int × xS)) : Prop := OK c (fun x => (-2147483648 ≤ x.1 ∧ x.1 < 2147483648) ∧ bfr3 σ x.2 ∧ TP x.2 β ∧ OK (r x.2) (fun y => y.1 = x.1 ∧ y.2 184 7 = 0 ∧ rfr8 x.2 y.2))
theorem BOTH_3 {c : Option (Int × xS)} {r : xS → Option (Int × xS)} (h : BOTH2 σ β c r) : BOTH3 σ β c r := OK_mono h fun x hx => ⟨hx.1, fun a j c1 c2 _ _ => hx.2.1 a j c1 c2, hx.2.2⟩
theorem bk_two (v : Int) : bkA v = 6 ∨ bkA v = 60 := by
  unfold bkA
  split
  · exact Or.inl rfl
  · exact Or.inr rfl
theorem SR_of (hB : Bk σ b β e) (hV : V β) : SR σ (b + 39) β (-1) := by
  obtain ⟨b0, b1, b2, b3, b4, b5, b6, b7, b8, b9, bd, bo, bs, bv, br⟩ := hB
  have vs := hV.2.2.2.2.2.2.2.2.2.2.2.2.1
  refine ⟨b7, fun s hs => ?_⟩
  obtain ⟨h1, h2, h3, h4⟩ := bs s hs
  have := vs s hs
  refine ⟨h1, h2, h3, by rw [h4]; exact this.2.2.2.2, ?_⟩
  rw [h4]
  omega
theorem SR_cl {ρ : Nat → Int} {s : Nat} (hB : Bk σ b β e) (hV : V β) (hs : s < 20) : SR σ (b + 39) (clF β ρ s) (s : Int) := by
  obtain ⟨b0, b1, b2, b3, b4, b5, b6, b7, b8, b9, bd, bo, bs, bv, br⟩ := hB
  have vs := hV.2.2.2.2.2.2.2.2.2.2.2.2.1
  have v7 := hV.2.2.2.2.2.2.2.1
  have g7 : clF β ρ s 7 = β 7 := cl_Ag hs 7 (by omega) (by omega)
  refine ⟨by rw [g7]; exact b7, fun t ht => ?_⟩
  rw [g7] at ht
  obtain ⟨h1, h2, h3, h4⟩ := bs t ht
  have := vs t ht
  rw [cl_st (by omega) (by omega), cl_st (by omega) (by omega), cl_st (by omega) (by omega), cl_st (by omega) (by omega), if_neg (by omega), if_neg (by omega), if_neg (by omega)]
  refine ⟨h1, h2, h3, by rw [h4]; exact this.2.2.2.2, ?_⟩
  rw [h4]
  by_cases q : t = s ∧ 3 = 3
  · rw [if_pos q]
    exact ⟨fun _ => Or.inr (by omega), fun _ => rfl⟩
  · rw [if_neg q]
    constructor
    · exact fun h => Or.inl h
    · rintro (h | h)
      · exact h
      · omega
theorem q_vitalStreet (hT : TP σ β) (hn : 4000000 ≤ n) : BOTH3 σ β (m_X12_vitalStreet n σ) (m_X13_vitalStreet n) := by
  have hT' := hT
  obtain ⟨⟨hB, hβ, hV, h4⟩, hR, hp, h50⟩ := hT
  have hall := allF_bd hV
  have hb := bkA_lt (σ 0 3)
  have hb2 := bk_two (σ 0 3)
  have v7 := hV.2.2.2.2.2.2.2.1
  have v6 := hV.2.2.2.2.2.2.1
  have k5 : ∀ t : xS, (xput t 184 7 0) 185 = t 185 := fun t => xput_ne1 (by omega)
  unfold BOTH3 m_X12_vitalStreet m_X13_vitalStreet
  rw [c_batchCount hB hV hn, bind_some']
  by_cases c60 : allF β ≤ 60
  · rw [if_pos c60, zI_of (n := allF β) (by omega) (by omega), if_neg (by omega)]
    have hrest : ∀ τ : xS, TP τ β → τ 187 = σ 187 → OK (xlet (xput τ 184 7 0) fun s1 => (m_X13_isMuch n s1).bind fun v2 => if (zI v2) = 0 then (m_X13_simulates n 185 s1).bind fun s4 => (m_X13_copies n 185 187 s4).bind fun s5 => xbS (m_X13_latest n 187 s5) fun v7 s6 => xlet (-1) fun v8 => loopF (fun rec10 (t9 : Int × Int × Int × xS) => xck 7 289 <| if (zI (t9.2.2.2 187 (7 : Int).toNat)) ≤ (zI t9.2.2.1) then some (t9.2.1, t9.2.2.2) else (m_X13_street 187 t9.2.2.1 3 t9.2.2.2).bind fun v13 => xj (fun (q16 : Int × Int × xS) => xlet (t9.2.2.1 + 1) fun v17 => rec10 (q16.1, q16.2.1, v17, q16.2.2)) fun J14 => if (zI v13) = 1 then J14 (t9.1, t9.2.1, t9.2.2.2) else xck (zI ((86 + (4 * t9.2.2.1)) + 3)) 289 <| xlet (xput t9.2.2.2 187 (zI ((86 + (4 * t9.2.2.1)) + 3)).toNat 1) fun s19 => xbS (m_X13_latest n 187 s19) fun v21 s20 => xck (zI ((86 + (4 * t9.2.2.1)) + 3)) 289 <| xlet (xput s20 187 (zI ((86 + (4 * t9.2.2.1)) + 3)).toNat 0) fun s22 => if (zI v21) < (zI t9.1) then J14 (v21, t9.2.2.1, s22) else J14 (t9.1, t9.2.1, s22)) n (v7, v8, 0, s6) else some ((-3), s1)) (fun y => y.1 = (vtF β (σ 187) (β 7).toNat).2 ∧ y.2 184 7 = 0 ∧ rfr8 τ y.2) := fun τ hTt hτ => by
      rw [xlet_eq, r_isMuch (β := β) (by rw [k5]; exact hTt.1.2.1) hV hn, bind_some', if_pos c60, zI_of (n := 0) (by omega) (by omega), if_pos rfl]
      refine OK_bind (r_simulates (k := 185) (β := β) (by omega) (by rw [k5]; exact hTt.1.2.1) hV c60 hn) (fun s4 h => ?_)
      obtain ⟨w1, w2⟩ := h
      have hfr : ∀ a j, (a < 184 ∨ (184 < a ∧ a < 192) ∨ 204 < a ∨ (a = 184 ∧ j ≠ 7 ∧ j ≠ 19 ∧ j ≠ 27 ∧ j ≠ 29 ∧ j ≠ 34 ∧ j ≠ 35 ∧ j ≠ 36 ∧ j ≠ 37 ∧ j ≠ 38)) → s4 a j = τ a j := fun a j hj => by rw [w2 a j (by omega), xput_ne (by omega)]
      have h7 : s4 184 7 = 0 := by rw [w2 _ _ (by omega)]; exact xput_eq
      have hI4 : NI s4 185 β β 0 := NI_of hTt c60 (RG_of hV c60 w1).1 hfr
      refine OK_bind (r_copies (k1 := 185) (k2 := 187) (by omega) hn) (fun s5 h => ?_)
      obtain ⟨u1, u2⟩ := h
      have e187 : s5 187 = rwF β (σ 187) := by
        funext j
        rw [u1, hI4.2.1, hfr _ _ (by omega), hτ]
        rfl
      have hI5 : NI s5 187 β (rwF β (σ 187)) 0 := by
        obtain ⟨n1, n2, n3, n4, n5, n6, n7, n8⟩ := hI4
        exact ⟨by omega, e187, rw_Ag _ _, V_congr hV (rw_eq _ _), hV, c60, RG_same n7 (fun a j h => u2 a j (by omega)), by rw [u2 _ _ (by omega)]; exact n8⟩
      refine OK_xbS (r_latest hI5 hn) (fun v s6 h => ?_)
      obtain ⟨y1, y2⟩ := h
      dsimp only at y1 y2
      have y1' : v = ltV β β 0 := by rw [← rw_lt (ρ := σ 187) hV]; exact y1
      subst y1'
      have hI6 := NI_same hI5 y2
      rw [xlet_eq]
      refine OK_mono (r_vitalLoop hV c60 hI6 hn) (fun y hy => ⟨hy.1, ?_, fun a j hj => ?_⟩)
      · rw [hy.2 _ _ (by omega) (by omega) (by omega), y2 _ _ (by omega) (by omega), u2 _ _ (by omega)]
        exact h7
      · rw [hy.2 _ _ (by omega) (by omega) (by omega), y2 _ _ (by omega) (by omega), u2 _ _ (by omega)]
        exact hfr a j (by omega)
    refine OK_xbS (c_latestAsItIs hB hV c60 (Or.inl rfl) hR hn) (fun v s h => ?_)
    obtain ⟨g1, gL, g3⟩ := h
    dsimp only at g1 gL g3
    have hTs : TP s β := TP_cfr hT' g3
    have hlb := ltV_bd (β := β) (γ := β) (e := 0) (fun _ _ _ => rfl) hV hV c60 (Or.inl rfl)
    have hvb := vt_bd (ρ := σ 187) hV c60 (β 7).toNat (by omega)
    have e187 : s 187 = σ 187 := by funext j; exact g3 _ _ (by omega)
    subst g1
    rw [xlet_eq, zI_of (n := ltV β β 0) (by omega) (by omega)]
    by_cases cN : ltV β β 0 = -1
    · rw [if_pos cN]
      refine OK_some ⟨by (try dsimp only); omega, fun a j c1 _ _ _ => g3 a j (by omega), hTs, OK_mono (hrest s hTs e187) fun y hy => ⟨?_, hy.2⟩⟩
      rw [hy.1, vt_none hV c60 cN _ (by omega)]
    · have e3 : s 0 3 = σ 0 3 := g3 _ _ (by omega)
      rw [if_neg cN]
      simp only [e3]
      have hBs : Bk s (bkA (σ 0 3)) β 0 := by rw [← e3]; exact hTs.1.1
      have hRs : RD s (bkA (σ 0 3) + 39) β := by rw [← e3]; exact hTs.2.1
      refine loop_for (β 7).toNat (fun l (t : Int × Int × Int × xS) => t.1 = (vtF β (σ 187) l).1 ∧ t.2.1 = (vtF β (σ 187) l).2 ∧ t.2.2.1 = (l : Int) ∧ LG t.2.2.2 β ∧ (∀ a j, ¬ (151 ≤ a ∧ a ≤ 183) → ¬ (bkA (σ 0 3) + 45 ≤ a ∧ a ≤ bkA (σ 0 3) + 53) → t.2.2.2 a j = σ a j)) ?_ ?_ (by omega) ⟨rfl, rfl, rfl, gL, fun a j c1 _ => g3 a j c1⟩
      · rintro l ⟨u, w, x, t⟩ hl ⟨q0, q1, q2, q3, q4⟩ rec hrec
        dsimp only at q0 q1 q2 q3 q4 hrec ⊢
        subst q0 q1 q2
        have hBt : Bk t (bkA (σ 0 3)) β 0 := Bk_low hB hV (fun k j h1 h2 => q4 k j (by omega) (by omega))
        have et3 : t 0 3 = σ 0 3 := q4 _ _ (by omega) (by omega)
        have e74 : t (bkA (σ 0 3) + 39) 4 = β 7 := hBt.2.2.2.2.2.2.2.1
        have e8 : t (bkA (σ 0 3)) 8 = β 6 := hBt.2.2.2.2.2.2.1
        have hbs := hBt.2.2.2.2.2.2.2.2.2.2.2.2.1 l (by omega)
        have vs := hV.2.2.2.2.2.2.2.2.2.2.2.2.1 l (by omega)
        have hvl := vt_bd (ρ := σ 187) hV c60 l (by omega)
        have hnx : vtF β (σ 187) (l + 1) = if stF β l 3 = 1 then vtF β (σ 187) l else if ltV (clF β (σ 187) l) β 0 < (vtF β (σ 187) l).1 then (ltV (clF β (σ 187) l) β 0, (l : Int)) else vtF β (σ 187) l := rfl
        simp only [e74]
        rw [zI_of (n := β 7) (by omega) (by omega), zI_of (n := (l : Int)) (by omega) (by omega), if_neg (by omega), xck_of (by omega) (by omega), xj_eq]
        simp only [tn_cast, hbs.2.2.2]
        rw [zI_of (n := stF β l 3) (by omega) (by omega)]
        by_cases c : stF β l 3 = 0
        · rw [if_neg (by omega)] at hnx
          rw [if_pos c]
          simp only [et3, e8]
          have hVc := cl_V (ρ := σ 187) (s := l) hV (by omega)
          have hAc := cl_Ag (β := β) (ρ := σ 187) (s := l) (by omega)
          have g6 : clF β (σ 187) l 6 = β 6 := hAc 6 (by omega) (by omega)
          have hlb2 := ltV_bd (β := β) (γ := clF β (σ 187) l) (e := 0) hAc hVc hV c60 (Or.inl rfl)
          have hex := c_explore (n := n) hVc (SR_cl (ρ := σ 187) (s := l) hBt hV (by omega)) (by omega) hn
          rw [g6] at hex
          refine OK_bind hex (fun s18 h => ?_)
          obtain ⟨x1, x2⟩ := h
          have e318 : s18 0 3 = σ 0 3 := by rw [x2 _ _ (by omega)]; exact et3
          have hB18 : Bk s18 (bkA (σ 0 3)) β 0 := Bk_low hBt hV (fun k j h1 h2 => x2 k j (by omega))
          have hL18 : LG s18 β := LG_same q3 (fun a j h => x2 a j (by omega))
          rw [e318]
          refine OK_xbS (c_latestAt hB18 hV hVc hAc c60 (Or.inl rfl) x1 hL18 hb hn) (fun v20 s19 h => ?_)
          obtain ⟨y1, y2⟩ := h
          dsimp only at y1 y2
          subst y1
          have hL19 : LG s19 β := LG_same hL18 (fun a j h => y2 a j (by omega))
          have hf19 : ∀ a j, ¬ (151 ≤ a ∧ a ≤ 183) → ¬ (bkA (σ 0 3) + 45 ≤ a ∧ a ≤ bkA (σ 0 3) + 53) → s19 a j = σ a j := fun a j c1 c2 => by
            rw [y2 _ _ (by omega), x2 _ _ (by omega)]
            exact q4 a j c1 c2
          rw [zI_of (n := (vtF β (σ 187) l).1) (by omega) (by omega), zI_of (n := ltV (clF β (σ 187) l) β 0) (by omega) (by omega)]
          by_cases d : ltV (clF β (σ 187) l) β 0 < (vtF β (σ 187) l).1
          · rw [if_pos d] at hnx
            rw [if_neg (by omega)]
            simp only [xlet_eq]
            exact hrec _ ⟨by rw [hnx], by rw [hnx], by (try dsimp only); omega, hL19, hf19⟩
          · rw [if_neg d] at hnx
            rw [if_pos (by omega)]
            simp only [xlet_eq]
            exact hrec _ ⟨by rw [hnx], by rw [hnx], by (try dsimp only); omega, hL19, hf19⟩
        · rw [if_pos (by omega)] at hnx
          rw [if_neg c]
          simp only [xlet_eq]
          exact hrec _ ⟨by rw [hnx], by rw [hnx], by (try dsimp only); omega, q3, q4⟩
      · rintro ⟨u, w, x, t⟩ ⟨q0, q1, q2, q3, q4⟩ rec
        dsimp only at q0 q1 q2 q3 q4 ⊢
        subst q0 q1 q2
        have hBt : Bk t (bkA (σ 0 3)) β 0 := Bk_low hB hV (fun k j h1 h2 => q4 k j (by omega) (by omega))
        have et3 : t 0 3 = σ 0 3 := q4 _ _ (by omega) (by omega)
        have e74 : t (bkA (σ 0 3) + 39) 4 = β 7 := hBt.2.2.2.2.2.2.2.1
        have e8 : t (bkA (σ 0 3)) 8 = β 6 := hBt.2.2.2.2.2.2.1
        simp only [e74]
        rw [zI_of (n := β 7) (by omega) (by omega), zI_of (n := (((β 7).toNat : Nat) : Int)) (by omega) (by omega), if_pos (by omega)]
        simp only [et3, e8]
        refine OK_bind (c_explore (n := n) hV (SR_of hBt hV) (by omega) hn) (fun s11 h => ?_)
        obtain ⟨x1, x2⟩ := h
        have hf : ∀ a j, ¬ (151 ≤ a ∧ a ≤ 183) → ¬ (bkA (σ 0 3) + 45 ≤ a ∧ a ≤ bkA (σ 0 3) + 53) → s11 a j = σ a j := fun a j c1 c2 => by
          rw [x2 _ _ (by omega)]
          exact q4 a j c1 c2
        have e311 : s11 0 3 = σ 0 3 := hf _ _ (by omega) (by omega)
        have hT11 : TP s11 β := by
          refine ⟨⟨?_, by rw [← hβ]; funext j; exact hf _ _ (by omega) (by omega), hV, ?_⟩, by rw [e311]; exact x1, ?_, by rw [hf _ _ (by omega) (by omega)]; exact h50⟩
          · rw [e311]
            exact Bk_low hBt hV (fun k j h1 h2 => x2 k j (by omega))
          · rw [hf 0 8 (by omega) (by omega), hf 184 5 (by omega) (by omega), hf 184 6 (by omega) (by omega)]
            rcases h4 with z | z
            · exact Or.inl z
            · exact Or.inr ⟨z.1, z.2.1, z.2.2.1, z.2.2.2.1, RF_same z.2.2.2.2 (fun a j h => hf a j (by omega) (by omega))⟩
          · rw [hf 0 8 (by omega) (by omega), hf 0 9 (by omega) (by omega), hf 184 6 (by omega) (by omega)]
            intro h8
            rcases hp h8 with z | z
            · exact Or.inl z
            · exact Or.inr ⟨z.1, PB_same z.2 (fun a j c1 c2 => hf a j (by omega) (by omega))⟩
        refine OK_some ⟨by (try dsimp only); omega, fun a j c1 c2 c3 c4 => hf a j (by omega) (by omega), hT11, OK_mono (hrest s11 hT11 (by funext j; exact hf _ _ (by omega) (by omega))) fun y hy => ⟨by rw [hy.1], hy.2⟩⟩
  · rw [if_neg c60, zI_of (n := -3) (by omega) (by omega), if_pos rfl]
    refine OK_some ⟨by (try dsimp only); omega, fun _ _ _ _ _ _ => rfl, hT', ?_⟩
    try dsimp only
    rw [xlet_eq, r_isMuch (β := β) (by rw [k5]; exact hβ) hV hn, bind_some', if_neg c60, zI_of (n := 1) (by omega) (by omega), if_neg (by omega)]
    exact OK_some ⟨rfl, (xput_eq : (xput σ 184 7 0) 184 7 = 0), fun a j hj => (xput_ne (by omega) : (xput σ 184 7 0) a j = σ a j)⟩
end VIT
