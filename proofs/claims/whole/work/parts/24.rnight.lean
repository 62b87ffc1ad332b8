/-! the reference's night, held against the mathematical one -/
/-- what state a batch is in behind minute u -/
def phF (P : NP) (N : Nat → Nat → Int) (u : Int) (b : Nat) : Int :=
  if N 3 b ≠ -1 then 9 else if N 2 b ≠ -1 then (if u < N 2 b + pT P b 5 then 7 else 8) else if N 1 b ≠ -1 then (if u < N 1 b + pT P b 2 then 4 else if u < pE P N b then 5 else 6) else if N 0 b ≠ -1 then (if u < N 0 b + pT P b 0 then 1 else if u < rE P N b then 2 else 3) else 0
def sgF (x T u : Int) : Int := if x ≠ -1 ∧ x + T ≤ u then x + T else -1
def RB (σ : xS) (β : Nat → Int) (N : Nat → Nat → Int) (u : Int) (b : Nat) : Prop :=
  σ 192 b = lG (bl β) b ∧ σ 193 b = phF (prm β) N u b ∧
  (phF (prm β) N u b = 1 → σ 194 b = N 0 b + pT (prm β) b 0) ∧ (phF (prm β) N u b = 2 → σ 194 b = rE (prm β) N b) ∧ (phF (prm β) N u b = 4 → σ 194 b = N 1 b + pT (prm β) b 2) ∧ (phF (prm β) N u b = 5 → σ 194 b = pE (prm β) N b) ∧ (phF (prm β) N u b = 7 → σ 194 b = N 2 b + pT (prm β) b 5) ∧
  σ 195 (6 * b + 0) = N 0 b ∧ σ 195 (6 * b + 1) = sgF (N 0 b) (pT (prm β) b 0) u ∧ σ 195 (6 * b + 2) = N 1 b ∧ σ 195 (6 * b + 3) = sgF (N 1 b) (pT (prm β) b 2) u ∧ σ 195 (6 * b + 4) = N 2 b ∧ σ 195 (6 * b + 5) = sgF (N 2 b) (pT (prm β) b 5) u ∧
  σ 196 b = N 4 b ∧ (N 1 b ≠ -1 → pE (prm β) N b ≤ u → σ 197 b = pE (prm β) N b) ∧ (N 0 b ≠ -1 → rE (prm β) N b ≤ u → σ 198 b = rE (prm β) N b)
def RO (σ : xS) (N : Nat → Nat → Int) (u : Int) (o : Nat) : Prop :=
  (N 6 o ≤ u → σ 202 o = -1 ∧ σ 201 o = N 5 o) ∧ (u < N 6 o → σ 202 o = N 5 o ∧ σ 203 o = N 6 o) ∧ σ 204 o = N 7 o
/-- in what order things have happened to a batch before minute t -/
def bOK (P : NP) (N : Nat → Nat → Int) (t : Int) (b : Nat) : Prop :=
  -1 ≤ N 0 b ∧ N 0 b < t ∧ (N 1 b = -1 ∨ (N 0 b ≠ -1 ∧ rE P N b ≤ N 1 b ∧ N 1 b < t)) ∧ (N 2 b = -1 ∨ (N 1 b ≠ -1 ∧ pE P N b ≤ N 2 b ∧ N 2 b < t ∧ N 3 b = -1)) ∧ (N 3 b = -1 ∨ (N 1 b ≠ -1 ∧ pE P N b < N 3 b ∧ N 3 b < t))
theorem bOK_of {P : NP} {M : NS} {t : Int} (hP : PV P) (I : Minv P t M) (ht : 0 ≤ t) {b : Nat} (hb : b < pn P) : bOK P M.1 t b := by
  obtain ⟨i0, i1, i2, i3, i4, i5, i6, i7, i8, i8', i10, i9, i11, i12, i13⟩ := I
  have hT := hP.1 b hb
  have a0 := i1 b
  have h0 : -1 ≤ M.1 0 b ∧ M.1 0 b < t := by
    rcases Nat.lt_or_ge b M.2.2.2 with z | z
    · have := a0.1 z; omega
    · have := a0.2 z; omega
  refine ⟨h0.1, h0.2, ?_, ?_, ?_⟩
  · rcases i2 b with z | z
    · exact Or.inl z
    · have := a0.1 z.1
      exact Or.inr ⟨by omega, z.2⟩
  · rcases i3 b with z | z
    · exact Or.inl z
    · exact Or.inr ⟨z.1, z.2.1, z.2.2.1, z.2.2.2.1⟩
  · rcases i4 b with z | z
    · exact Or.inl z
    · exact Or.inr ⟨z.1, by omega, z.2.2⟩
section RNI
variable {σ : xS} {k n : Nat} {β : Nat → Int} {u t : Int} {N : Nat → Nat → Int} {M : NS}
theorem xput_r {σ : xS} {a j : Nat} {v : Int} {k : Nat} (h : k ≠ a) : (xput σ a j v) k = σ k := xput_ne1 h
theorem r_reaches0 {b : Nat} (hb : b < 60) : m_X13_reaches (b : Int) 0 σ = some (xput σ 195 (6 * b + 0) (σ 184 34)) := by
  unfold m_X13_reaches
  simp (disch := omega) only [zI_of, xck_of, xlet_eq]
  rw [show ((6 * (b : Int) + 0).toNat) = 6 * b + 0 by omega]
theorem r_stageOf0 {b : Nat} (hb : b < 60) : m_X13_stageOf (b : Int) 0 σ = some (σ 195 (6 * b + 0)) := by
  unfold m_X13_stageOf
  simp (disch := omega) only [zI_of, xck_of, xlet_eq]
  rw [show ((6 * (b : Int) + 0).toNat) = 6 * b + 0 by omega]
theorem r_reaches1 {b : Nat} (hb : b < 60) : m_X13_reaches (b : Int) 1 σ = some (xput σ 195 (6 * b + 1) (σ 184 34)) := by
  unfold m_X13_reaches
  simp (disch := omega) only [zI_of, xck_of, xlet_eq]
  rw [show ((6 * (b : Int) + 1).toNat) = 6 * b + 1 by omega]
theorem r_stageOf1 {b : Nat} (hb : b < 60) : m_X13_stageOf (b : Int) 1 σ = some (σ 195 (6 * b + 1)) := by
  unfold m_X13_stageOf
  simp (disch := omega) only [zI_of, xck_of, xlet_eq]
  rw [show ((6 * (b : Int) + 1).toNat) = 6 * b + 1 by omega]
theorem r_reaches2 {b : Nat} (hb : b < 60) : m_X13_reaches (b : Int) 2 σ = some (xput σ 195 (6 * b + 2) (σ 184 34)) := by
  unfold m_X13_reaches
  simp (disch := omega) only [zI_of, xck_of, xlet_eq]
  rw [show ((6 * (b : Int) + 2).toNat) = 6 * b + 2 by omega]
theorem r_stageOf2 {b : Nat} (hb : b < 60) : m_X13_stageOf (b : Int) 2 σ = some (σ 195 (6 * b + 2)) := by
  unfold m_X13_stageOf
  simp (disch := omega) only [zI_of, xck_of, xlet_eq]
  rw [show ((6 * (b : Int) + 2).toNat) = 6 * b + 2 by omega]
theorem r_reaches3 {b : Nat} (hb : b < 60) : m_X13_reaches (b : Int) 3 σ = some (xput σ 195 (6 * b + 3) (σ 184 34)) := by
  unfold m_X13_reaches
  simp (disch := omega) only [zI_of, xck_of, xlet_eq]
  rw [show ((6 * (b : Int) + 3).toNat) = 6 * b + 3 by omega]
theorem r_stageOf3 {b : Nat} (hb : b < 60) : m_X13_stageOf (b : Int) 3 σ = some (σ 195 (6 * b + 3)) := by
  unfold m_X13_stageOf
  simp (disch := omega) only [zI_of, xck_of, xlet_eq]
  rw [show ((6 * (b : Int) + 3).toNat) = 6 * b + 3 by omega]
theorem r_reaches4 {b : Nat} (hb : b < 60) : m_X13_reaches (b : Int) 4 σ = some (xput σ 195 (6 * b + 4) (σ 184 34)) := by
  unfold m_X13_reaches
  simp (disch := omega) only [zI_of, xck_of, xlet_eq]
  rw [show ((6 * (b : Int) + 4).toNat) = 6 * b + 4 by omega]
theorem r_stageOf4 {b : Nat} (hb : b < 60) : m_X13_stageOf (b : Int) 4 σ = some (σ 195 (6 * b + 4)) := by
  unfold m_X13_stageOf
  simp (disch := omega) only [zI_of, xck_of, xlet_eq]
  rw [show ((6 * (b : Int) + 4).toNat) = 6 * b + 4 by omega]
theorem r_reaches5 {b : Nat} (hb : b < 60) : m_X13_reaches (b : Int) 5 σ = some (xput σ 195 (6 * b + 5) (σ 184 34)) := by
  unfold m_X13_reaches
  simp (disch := omega) only [zI_of, xck_of, xlet_eq]
  rw [show ((6 * (b : Int) + 5).toNat) = 6 * b + 5 by omega]
theorem r_stageOf5 {b : Nat} (hb : b < 60) : m_X13_stageOf (b : Int) 5 σ = some (σ 195 (6 * b + 5)) := by
  unfold m_X13_stageOf
  simp (disch := omega) only [zI_of, xck_of, xlet_eq]
  rw [show ((6 * (b : Int) + 5).toNat) = 6 * b + 5 by omega]
theorem r_stateMany (hP : PV (prm β)) (h19 : σ 184 19 = ((bl β).length : Int)) (hR : ∀ b, b < (bl β).length → σ 193 b = phF (prm β) N u b) (hn : 4000000 ≤ n) {s : Int} (hs : 0 ≤ s ∧ s ≤ 9) : m_X13_stateMany n s σ = some (sumTo (bl β).length (fun b => if decide (phF (prm β) N u b = s) = true then 1 else 0)) := by
  have h60 : (bl β).length ≤ 60 := hP.2.2.1
  unfold m_X13_stateMany
  refine loop_eq (bl β).length (fun i => (sumTo i (fun b => if decide (phF (prm β) N u b = s) = true then 1 else 0), (i : Int))) rfl ?_ ?_ (by omega)
  · intro i hi rec
    have h := hR i hi
    have hph : 0 ≤ phF (prm β) N u i ∧ phF (prm β) N u i ≤ 9 := by
      unfold phF
      repeat' split
      all_goals omega
    dsimp only
    rw [sumTo]
    simp (disch := omega) only [zI_of, h19, if_neg, xck_of, tn_cast, xlet_eq, h]
    by_cases c : phF (prm β) N u i = s
    · simp [c]
    · simp [c]
  · intro rec
    dsimp only
    simp (disch := omega) only [zI_of, h19, if_pos]
theorem ph7 {P : NP} {b : Nat} (hb : bOK P N (u + 1) b) : phF P N u b = 7 ↔ (N 2 b ≠ -1 ∧ u < N 2 b + pT P b 5) := by
  unfold bOK at hb
  unfold phF
  constructor
  · intro h
    repeat' split at h
    all_goals omega
  · intro h
    rw [if_neg (by omega), if_pos h.1, if_pos h.2]
theorem r_onShelves (hP : PV (prm β)) (h19 : σ 184 19 = ((bl β).length : Int)) (hR : ∀ b, b < (bl β).length → RB σ β N t b) (hb : ∀ b, b < (bl β).length → bOK (prm β) N (t + 1) b) (hN : NB (prm β) N) (hn : 4000000 ≤ n) {o : Nat} (ho : o < 4) : m_X13_onShelves n o σ = some (used (prm β) N o t) := by
  have h60 : (bl β).length ≤ 60 := hP.2.2.1
  have hv : pv (prm β) ≤ 4 := hP.2.2.2.1
  unfold m_X13_onShelves
  refine loop_eq (bl β).length (fun i => (sumTo i (fun i => if usedB (prm β) N o t i = true then 1 else 0), (i : Int))) rfl ?_ ?_ (by omega)
  · intro i hi rec
    obtain ⟨q0, q1, -, -, -, -, -, -, -, -, -, -, -, q4, -⟩ := hR i hi
    have hbi := hb i hi
    have hN4 := hN.2.1 i hi
    have hph : 0 ≤ phF (prm β) N t i ∧ phF (prm β) N t i ≤ 9 := by
      unfold phF
      repeat' split
      all_goals omega
    have h7 := ph7 hbi
    dsimp only
    rw [sumTo]
    simp (disch := omega) only [zI_of, h19, if_neg, xck_of, tn_cast, xlet_eq, xj_eq, q1, q4]
    have hu : usedB (prm β) N o t i = (decide (phF (prm β) N t i = 7) && decide (N 4 i = (o : Int))) := by
      unfold usedB
      unfold bOK at hbi
      by_cases c : phF (prm β) N t i = 7
      · have := h7.mp c
        have e1 : decide (N 2 i ≠ -1) = true := decide_eq_true this.1
        have e2 : decide (N 2 i ≤ t) = true := decide_eq_true (by omega)
        have e3 : decide (t < N 2 i + pT (prm β) i 5) = true := decide_eq_true this.2
        rw [e1, e2, e3, decide_eq_true c]
        simp
      · have : ¬ (N 2 i ≠ -1 ∧ t < N 2 i + pT (prm β) i 5) := fun z => c (h7.mpr z)
        rw [decide_eq_false c]
        by_cases c2 : N 2 i = -1
        · simp [c2]
        · have e3 : decide (t < N 2 i + pT (prm β) i 5) = false := decide_eq_false (fun z => this ⟨c2, z⟩)
          rw [e3]
          simp
    rw [hu]
    by_cases c : phF (prm β) N t i = 7
    · by_cases c2 : N 4 i = (o : Int)
      · simp [c, c2]
      · simp [c, c2]
    · simp [c]
  · intro rec
    dsimp only
    simp (disch := omega) only [zI_of, h19, if_pos]
    rfl
end RNI
/-- the five steps of goesOn -/
def gS1 (k1 : Nat) (p2 v1 : Int) (q : xS) (J : xS → Option xS) : Option xS := if (zI (q 193 (zI p2).toNat)) = 1 then xck (zI p2) 60 <| if (zI (q 194 (zI p2).toNat)) = (zI (q 184 34)) then (m_X13_reaches p2 1 q).bind fun s43 => xck (zI p2) 60 <| xlet (xput s43 193 (zI p2).toNat 2) fun s44 => (m_X13_dough k1 v1 1 s44).bind fun v45 => (m_X13_slowed k1 v45 s44).bind fun v46 => xck (zI p2) 60 <| xlet (xput s44 194 (zI p2).toNat ((s44 184 34) + v46)) fun s47 => J s47 else J q else J q
def gS2 (p2 : Int) (q4 : xS) (J : xS → Option xS) : Option xS := if (zI (q4 193 (zI p2).toNat)) = 2 then xck (zI p2) 60 <| if (zI (q4 194 (zI p2).toNat)) = (zI (q4 184 34)) then xck (zI p2) 60 <| xlet (xput q4 193 (zI p2).toNat 3) fun s37 => xck (zI p2) 60 <| xlet (xput s37 198 (zI p2).toNat (s37 184 34)) fun s38 => xck (zI (s38 184 27)) 60 <| xlet (xput s38 199 (zI (s38 184 27)).toNat p2) fun s39 => xlet (xput s39 184 27 ((s39 184 27) + 1)) fun s40 => J s40 else J q4 else J q4
def gS3 (k1 : Nat) (p2 v1 : Int) (q7 : xS) (J : xS → Option xS) : Option xS := if (zI (q7 193 (zI p2).toNat)) = 4 then xck (zI p2) 60 <| if (zI (q7 194 (zI p2).toNat)) = (zI (q7 184 34)) then (m_X13_reaches p2 3 q7).bind fun s30 => xck (zI p2) 60 <| xlet (xput s30 193 (zI p2).toNat 5) fun s31 => (m_X13_dough k1 v1 3 s31).bind fun v32 => (m_X13_slowed k1 v32 s31).bind fun v33 => xck (zI p2) 60 <| xlet (xput s31 194 (zI p2).toNat ((s31 184 34) + v33)) fun s34 => J s34 else J q7 else J q7
def gS4 (p2 : Int) (q10 : xS) (J : xS → Option xS) : Option xS := if (zI (q10 193 (zI p2).toNat)) = 5 then xck (zI p2) 60 <| if (zI (q10 194 (zI p2).toNat)) = (zI (q10 184 34)) then xck (zI p2) 60 <| xlet (xput q10 193 (zI p2).toNat 6) fun s24 => xck (zI p2) 60 <| xlet (xput s24 197 (zI p2).toNat (s24 184 34)) fun s25 => xck (zI (s25 184 29)) 60 <| xlet (xput s25 200 (zI (s25 184 29)).toNat p2) fun s26 => xlet (xput s26 184 29 ((s26 184 29) + 1)) fun s27 => J s27 else J q10 else J q10
def gS5 (p2 : Int) (q13 : xS) (J : xS → Option xS) : Option xS := if (zI (q13 193 (zI p2).toNat)) = 7 then xck (zI p2) 60 <| if (zI (q13 194 (zI p2).toNat)) = (zI (q13 184 34)) then (m_X13_reaches p2 5 q13).bind fun s19 => xck (zI p2) 60 <| xlet (xput s19 193 (zI p2).toNat 8) fun s20 => xlet (xput s20 184 35 (s20 184 34)) fun s21 => J s21 else J q13 else J q13
theorem goes_eq (k1 : Nat) (p2 : Int) (σ : xS) : m_X13_goesOn k1 p2 σ = xck (zI p2) 60 (xlet (σ 192 (zI p2).toNat) fun v1 => xck (zI p2) 60 (gS1 k1 p2 v1 σ (fun q4 => xck (zI p2) 60 (gS2 p2 q4 (fun q7 => xck (zI p2) 60 (gS3 k1 p2 v1 q7 (fun q10 => xck (zI p2) 60 (gS4 p2 q10 (fun q13 => xck (zI p2) 60 (gS5 p2 q13 (fun q16 => some q16))))))))))) := rfl
section GS
variable {k b : Nat} {v1 : Int} {q : xS} {J : xS → Option xS} {P : xS → Prop} {t : Int} {β : Nat → Int}
theorem gS1_skip (hb : b < 60) (h : 0 ≤ q 193 b ∧ q 193 b ≤ 9) (hn : q 193 b ≠ 1) (hJ : OK (J q) P) : OK (gS1 k (b : Int) v1 q J) P := by
  unfold gS1
  simp (disch := omega) only [zI_of (n := (b : Int)), tn_cast]
  rw [zI_of (by omega) (by omega), if_neg hn]
  exact hJ
theorem gS1_wait (hb : b < 60) (h : q 193 b = 1) (h34 : q 184 34 = t) (ht : 0 ≤ t ∧ t ≤ 150000) (hu : -1 ≤ q 194 b ∧ q 194 b ≤ 300000) (hn : q 194 b ≠ t) (hJ : OK (J q) P) : OK (gS1 k (b : Int) v1 q J) P := by
  unfold gS1
  simp (disch := omega) only [zI_of (n := (b : Int)), tn_cast, xck_of]
  rw [h, h34, zI_of (n := t) (by omega) (by omega), zI_of (n := q 194 b) (by omega) (by omega), if_pos (zI_of (by omega) (by omega)), if_neg hn]
  exact hJ
theorem gS2_skip (hb : b < 60) (h : 0 ≤ q 193 b ∧ q 193 b ≤ 9) (hn : q 193 b ≠ 2) (hJ : OK (J q) P) : OK (gS2 (b : Int) q J) P := by
  unfold gS2
  simp (disch := omega) only [zI_of (n := (b : Int)), tn_cast]
  rw [zI_of (by omega) (by omega), if_neg hn]
  exact hJ
theorem gS2_wait (hb : b < 60) (h : q 193 b = 2) (h34 : q 184 34 = t) (ht : 0 ≤ t ∧ t ≤ 150000) (hu : -1 ≤ q 194 b ∧ q 194 b ≤ 300000) (hn : q 194 b ≠ t) (hJ : OK (J q) P) : OK (gS2 (b : Int) q J) P := by
  unfold gS2
  simp (disch := omega) only [zI_of (n := (b : Int)), tn_cast, xck_of]
  rw [h, h34, zI_of (n := t) (by omega) (by omega), zI_of (n := q 194 b) (by omega) (by omega), if_pos (zI_of (by omega) (by omega)), if_neg hn]
  exact hJ
theorem gS3_skip (hb : b < 60) (h : 0 ≤ q 193 b ∧ q 193 b ≤ 9) (hn : q 193 b ≠ 4) (hJ : OK (J q) P) : OK (gS3 k (b : Int) v1 q J) P := by
  unfold gS3
  simp (disch := omega) only [zI_of (n := (b : Int)), tn_cast]
  rw [zI_of (by omega) (by omega), if_neg hn]
  exact hJ
theorem gS3_wait (hb : b < 60) (h : q 193 b = 4) (h34 : q 184 34 = t) (ht : 0 ≤ t ∧ t ≤ 150000) (hu : -1 ≤ q 194 b ∧ q 194 b ≤ 300000) (hn : q 194 b ≠ t) (hJ : OK (J q) P) : OK (gS3 k (b : Int) v1 q J) P := by
  unfold gS3
  simp (disch := omega) only [zI_of (n := (b : Int)), tn_cast, xck_of]
  rw [h, h34, zI_of (n := t) (by omega) (by omega), zI_of (n := q 194 b) (by omega) (by omega), if_pos (zI_of (by omega) (by omega)), if_neg hn]
  exact hJ
theorem gS4_skip (hb : b < 60) (h : 0 ≤ q 193 b ∧ q 193 b ≤ 9) (hn : q 193 b ≠ 5) (hJ : OK (J q) P) : OK (gS4 (b : Int) q J) P := by
  unfold gS4
  simp (disch := omega) only [zI_of (n := (b : Int)), tn_cast]
  rw [zI_of (by omega) (by omega), if_neg hn]
  exact hJ
theorem gS4_wait (hb : b < 60) (h : q 193 b = 5) (h34 : q 184 34 = t) (ht : 0 ≤ t ∧ t ≤ 150000) (hu : -1 ≤ q 194 b ∧ q 194 b ≤ 300000) (hn : q 194 b ≠ t) (hJ : OK (J q) P) : OK (gS4 (b : Int) q J) P := by
  unfold gS4
  simp (disch := omega) only [zI_of (n := (b : Int)), tn_cast, xck_of]
  rw [h, h34, zI_of (n := t) (by omega) (by omega), zI_of (n := q 194 b) (by omega) (by omega), if_pos (zI_of (by omega) (by omega)), if_neg hn]
  exact hJ
theorem gS5_skip (hb : b < 60) (h : 0 ≤ q 193 b ∧ q 193 b ≤ 9) (hn : q 193 b ≠ 7) (hJ : OK (J q) P) : OK (gS5 (b : Int) q J) P := by
  unfold gS5
  simp (disch := omega) only [zI_of (n := (b : Int)), tn_cast]
  rw [zI_of (by omega) (by omega), if_neg hn]
  exact hJ
theorem gS5_wait (hb : b < 60) (h : q 193 b = 7) (h34 : q 184 34 = t) (ht : 0 ≤ t ∧ t ≤ 150000) (hu : -1 ≤ q 194 b ∧ q 194 b ≤ 300000) (hn : q 194 b ≠ t) (hJ : OK (J q) P) : OK (gS5 (b : Int) q J) P := by
  unfold gS5
  simp (disch := omega) only [zI_of (n := (b : Int)), tn_cast, xck_of]
  rw [h, h34, zI_of (n := t) (by omega) (by omega), zI_of (n := q 194 b) (by omega) (by omega), if_pos (zI_of (by omega) (by omega)), if_neg hn]
  exact hJ
theorem gS1_act (hk : 185 ≤ k ∧ k ≤ 187) (hβ : q k = β) (hV : V β) (hb : b < 60) (h : q 193 b = 1) (h34 : q 184 34 = t) (ht : 0 ≤ t ∧ t ≤ 150000) (hu : q 194 b = t) {d : Nat} (hv : v1 = (d : Int)) (hd : (d : Int) < β 4)
    (hJ : OK (J (xput (xput (xput q 195 (6 * b + 1) t) 193 b 2) 194 b (t + upD (24 * dF β d 1) (β 0)))) P) : OK (gS1 k (b : Int) v1 q J) P := by
  have v4 := hV.2.2.2.2.1
  have vd := hV.2.2.2.2.2.2.2.2.2.2.1 d hd
  have hrow : (xput (xput q 195 (6 * b + 1) (q 184 34)) 193 b 2) k = β := by rw [xput_r (by omega), xput_r (by omega)]; exact hβ
  have hVr : V ((xput (xput q 195 (6 * b + 1) (q 184 34)) 193 b 2) k) := by rw [hrow]; exact hV
  have e1 := r_dough1 (σ := xput (xput q 195 (6 * b + 1) (q 184 34)) 193 b 2) (k := k) (i := d) (by omega)
  have e2 := r_slowed (σ := xput (xput q 195 (6 * b + 1) (q 184 34)) 193 b 2) (k := k) hVr (m := dF β d 1) (by omega) (by omega)
  rw [hrow] at e1 e2
  unfold gS1
  simp (disch := omega) only [zI_of (n := (b : Int)), tn_cast, xck_of, hv, xlet_eq]
  rw [h, h34, hu, if_pos (zI_of (by omega) (by omega)), if_pos rfl, r_reaches1 hb, bind_some']
  rw [e1, bind_some', e2, bind_some', xput_ne (by omega), xput_ne (by omega), h34]
  exact hJ
theorem gS3_act (hk : 185 ≤ k ∧ k ≤ 187) (hβ : q k = β) (hV : V β) (hb : b < 60) (h : q 193 b = 4) (h34 : q 184 34 = t) (ht : 0 ≤ t ∧ t ≤ 150000) (hu : q 194 b = t) {d : Nat} (hv : v1 = (d : Int)) (hd : (d : Int) < β 4)
    (hJ : OK (J (xput (xput (xput q 195 (6 * b + 3) t) 193 b 5) 194 b (t + upD (24 * dF β d 3) (β 0)))) P) : OK (gS3 k (b : Int) v1 q J) P := by
  have v4 := hV.2.2.2.2.1
  have vd := hV.2.2.2.2.2.2.2.2.2.2.1 d hd
  have hrow : (xput (xput q 195 (6 * b + 3) (q 184 34)) 193 b 5) k = β := by rw [xput_r (by omega), xput_r (by omega)]; exact hβ
  have hVr : V ((xput (xput q 195 (6 * b + 3) (q 184 34)) 193 b 5) k) := by rw [hrow]; exact hV
  have e1 := r_dough3 (σ := xput (xput q 195 (6 * b + 3) (q 184 34)) 193 b 5) (k := k) (i := d) (by omega)
  have e2 := r_slowed (σ := xput (xput q 195 (6 * b + 3) (q 184 34)) 193 b 5) (k := k) hVr (m := dF β d 3) (by omega) (by omega)
  rw [hrow] at e1 e2
  unfold gS3
  simp (disch := omega) only [zI_of (n := (b : Int)), tn_cast, xck_of, hv, xlet_eq]
  rw [h, h34, hu, if_pos (zI_of (by omega) (by omega)), if_pos rfl, r_reaches3 hb, bind_some']
  rw [e1, bind_some', e2, bind_some', xput_ne (by omega), xput_ne (by omega), h34]
  exact hJ
theorem gS2_act (hb : b < 60) (h : q 193 b = 2) (h34 : q 184 34 = t) (ht : 0 ≤ t ∧ t ≤ 150000) (hu : q 194 b = t) {l : Nat} (hc : q 184 27 = (l : Int)) (hl : l < 60)
    (hJ : OK (J (xput (xput (xput (xput q 193 b 3) 198 b t) 199 l (b : Int)) 184 27 ((l : Int) + 1))) P) : OK (gS2 (b : Int) q J) P := by
  unfold gS2
  simp (disch := omega) only [zI_of (n := (b : Int)), tn_cast, xck_of, xlet_eq]
  rw [h, h34, hu, if_pos (zI_of (by omega) (by omega)), if_pos rfl]
  simp (disch := omega) only [xput_ne, h34, hc, zI_of (n := (l : Int)), tn_cast, xck_of]
  exact hJ
theorem gS4_act (hb : b < 60) (h : q 193 b = 5) (h34 : q 184 34 = t) (ht : 0 ≤ t ∧ t ≤ 150000) (hu : q 194 b = t) {l : Nat} (hc : q 184 29 = (l : Int)) (hl : l < 60)
    (hJ : OK (J (xput (xput (xput (xput q 193 b 6) 197 b t) 200 l (b : Int)) 184 29 ((l : Int) + 1))) P) : OK (gS4 (b : Int) q J) P := by
  unfold gS4
  simp (disch := omega) only [zI_of (n := (b : Int)), tn_cast, xck_of, xlet_eq]
  rw [h, h34, hu, if_pos (zI_of (by omega) (by omega)), if_pos rfl]
  simp (disch := omega) only [xput_ne, h34, hc, zI_of (n := (l : Int)), tn_cast, xck_of]
  exact hJ
theorem gS5_act (hb : b < 60) (h : q 193 b = 7) (h34 : q 184 34 = t) (ht : 0 ≤ t ∧ t ≤ 150000) (hu : q 194 b = t) (hJ : OK (J (xput (xput (xput q 195 (6 * b + 5) t) 193 b 8) 184 35 t)) P) : OK (gS5 (b : Int) q J) P := by
  unfold gS5
  simp (disch := omega) only [zI_of (n := (b : Int)), tn_cast, xck_of, xlet_eq]
  rw [h, h34, hu, if_pos (zI_of (by omega) (by omega)), if_pos rfl, r_reaches5 hb, bind_some', xput_ne (by omega), xput_ne (by omega), h34]
  exact hJ
end GS
section RNI
variable {σ : xS} {k n : Nat} {β : Nat → Int} {u t : Int} {N : Nat → Nat → Int} {M : NS}
/-- what a batch does in a minute by itself -/
def goP (σ σ' : xS) (β : Nat → Int) (N : Nat → Nat → Int) (t : Int) (b : Nat) (Q1 Q2 : List Nat) : Prop :=
  RB σ' β N t b ∧
  (∀ c, c ≠ b → σ' 192 c = σ 192 c ∧ σ' 193 c = σ 193 c ∧ σ' 194 c = σ 194 c ∧ (∀ r, r < 6 → σ' 195 (6 * c + r) = σ 195 (6 * c + r)) ∧ σ' 196 c = σ 196 c ∧ σ' 197 c = σ 197 c ∧ σ' 198 c = σ 198 c) ∧
  RQ σ' 184 27 199 (Q1 ++ if N 0 b ≠ -1 ∧ rE (prm β) N b = t then [b] else []) ∧ RQ σ' 184 29 200 (Q2 ++ if N 1 b ≠ -1 ∧ pE (prm β) N b = t then [b] else []) ∧
  σ' 184 35 = (if N 2 b ≠ -1 ∧ N 2 b + pT (prm β) b 5 = t then t else σ 184 35) ∧
  (∀ a j, (a < 184 ∨ (184 < a ∧ a < 193) ∨ 200 < a ∨ (a = 184 ∧ j ≠ 27 ∧ j ≠ 29 ∧ j ≠ 35)) → σ' a j = σ a j)
theorem RQ_app' {s1 s2 : xS} {a : Nat} {k j : Nat} {Q : List Nat} {i : Nat} (h : RQ s1 k j a Q) (hl : s2 k j = ((Q.length + 1 : Nat) : Int)) (hi : s2 a Q.length = (i : Int)) (ho : ∀ x, x < Q.length → s2 a x = s1 a x) : RQ s2 k j a (Q ++ [i]) := by
  refine ⟨by rw [hl, List.length_append]; rfl, fun x hx => ?_⟩
  rw [List.length_append] at hx
  simp at hx
  by_cases c : x = Q.length
  · rw [c, lG_app]; exact hi
  · rw [lG_l (by omega), ho x (by omega)]
    exact h.2 x (by omega)
set_option maxHeartbeats 4000000 in
theorem r_goesOn (hk : 185 ≤ k ∧ k ≤ 187) (hβ : σ k = β) (hV : V β) (hP : PV (prm β)) {b : Nat} (hb : b < (bl β).length) (hR : RB σ β N (t - 1) b) (ho : bOK (prm β) N t b) (hN : NB (prm β) N) (ht : 0 ≤ t ∧ t ≤ 150000) (h34 : σ 184 34 = t) {Q1 Q2 : List Nat} (hQ1 : RQ σ 184 27 199 Q1) (hQ2 : RQ σ 184 29 200 Q2) (hl1 : N 0 b ≠ -1 ∧ rE (prm β) N b = t → Q1.length < 60) (hl2 : N 1 b ≠ -1 ∧ pE (prm β) N b = t → Q2.length < 60) :
    OK (m_X13_goesOn k b σ) (fun σ' => goP σ σ' β N t b Q1 Q2) := by
  have h60 : (bl β).length ≤ 60 := hP.2.2.1
  have hT := hP.1 b hb
  obtain ⟨q0, q1, u1, u2, u4, u5, u7, s0, s1, s2, s3, s4, s5, q4, p7, p8⟩ := hR
  have hd := bl_d hV hb
  have v4 := hV.2.2.2.2.1
  have vd := hV.2.2.2.2.2.2.2.2.2.2.1 _ hd
  have eR : rE (prm β) N b = N 0 b + pT (prm β) b 0 + pT (prm β) b 1 := rfl
  have eP : pE (prm β) N b = N 1 b + pT (prm β) b 2 + pT (prm β) b 3 := rfl
  have e1 : upD (24 * dF β ((bl β).getD b 0) 1) (β 0) = pT (prm β) b 1 := rfl
  have e3 : upD (24 * dF β ((bl β).getD b 0) 3) (β 0) = pT (prm β) b 3 := rfl
  obtain ⟨o0, o0', o1, o2, o3⟩ := ho
  have n0 := hN.1 b hb 0 (by omega)
  have n1 := hN.1 b hb 1 (by omega)
  have n2 := hN.1 b hb 2 (by omega)
  have n3 := hN.1 b hb 3 (by omega)
  by_cases c3 : N 3 b = -1
  · by_cases c2 : N 2 b = -1
    · by_cases c1 : N 1 b = -1
      · by_cases c0 : N 0 b = -1
        · have hp : phF (prm β) N (t - 1) b = 0 := by unfold phF; rw [if_neg (by omega), if_neg (by omega), if_neg (by omega), if_neg (by omega)]
          have hp' : phF (prm β) N t b = 0 := by unfold phF; rw [if_neg (by omega), if_neg (by omega), if_neg (by omega), if_neg (by omega)]
          rw [hp] at q1
          rw [goes_eq]
          simp (disch := omega) only [zI_of (n := (b : Int)), tn_cast, xck_of, xlet_eq]
          refine gS1_skip (by omega) (by (try simp (disch := omega) only [xput_eq, xput_ne]) <;> omega) (by (try simp (disch := omega) only [xput_eq, xput_ne]) <;> omega) ?_
          refine gS2_skip (by omega) (by (try simp (disch := omega) only [xput_eq, xput_ne]) <;> omega) (by (try simp (disch := omega) only [xput_eq, xput_ne]) <;> omega) ?_
          refine gS3_skip (by omega) (by (try simp (disch := omega) only [xput_eq, xput_ne]) <;> omega) (by (try simp (disch := omega) only [xput_eq, xput_ne]) <;> omega) ?_
          refine gS4_skip (by omega) (by (try simp (disch := omega) only [xput_eq, xput_ne]) <;> omega) (by (try simp (disch := omega) only [xput_eq, xput_ne]) <;> omega) ?_
          refine gS5_skip (by omega) (by (try simp (disch := omega) only [xput_eq, xput_ne]) <;> omega) (by (try simp (disch := omega) only [xput_eq, xput_ne]) <;> omega) ?_
          refine OK_some ⟨⟨?_, ?_, fun h => ?_, fun h => ?_, fun h => ?_, fun h => ?_, fun h => ?_, ?_, ?_, ?_, ?_, ?_, ?_, ?_, fun h h' => ?_, fun h h' => ?_⟩, fun c hc => ⟨?_, ?_, ?_, fun r hr => ?_, ?_, ?_, ?_⟩, ?_, ?_, ?_, fun a j haj => ?_⟩
          all_goals (try simp (disch := omega) only [xput_eq, xput_ne])
          · exact q0
          · rw [hp']; exact q1
          · rw [hp'] at h; omega
          · rw [hp'] at h; omega
          · rw [hp'] at h; omega
          · rw [hp'] at h; omega
          · rw [hp'] at h; omega
          · exact s0
          · rw [s1]; unfold sgF; split <;> split <;> omega
          · exact s2
          · rw [s3]; unfold sgF; split <;> split <;> omega
          · exact s4
          · rw [s5]; unfold sgF; split <;> split <;> omega
          · exact q4
          · exact p7 h (by omega)
          · exact p8 h (by omega)
          · rw [if_neg (by omega), List.append_nil]; refine RQ_of hQ1 ?_ (fun i hi => ?_) <;> (try simp (disch := omega) only [xput_eq, xput_ne])
          · rw [if_neg (by omega), List.append_nil]; refine RQ_of hQ2 ?_ (fun i hi => ?_) <;> (try simp (disch := omega) only [xput_eq, xput_ne])
          · rw [if_neg (by omega)]
        · by_cases a1 : t < N 0 b + pT (prm β) b 0
          · have hp : phF (prm β) N (t - 1) b = 1 := by unfold phF; rw [if_neg (by omega), if_neg (by omega), if_neg (by omega), if_pos (by omega), if_pos (by omega)]
            have hp' : phF (prm β) N t b = 1 := by unfold phF; rw [if_neg (by omega), if_neg (by omega), if_neg (by omega), if_pos (by omega), if_pos (by omega)]
            rw [hp] at q1
            have hu := u1 hp
            rw [goes_eq]
            simp (disch := omega) only [zI_of (n := (b : Int)), tn_cast, xck_of, xlet_eq]
            refine gS1_wait (t := t) (by omega) (by (try simp (disch := omega) only [xput_eq, xput_ne]) <;> omega) (by (try simp (disch := omega) only [xput_eq, xput_ne]) <;> omega) ht (by (try simp (disch := omega) only [xput_eq, xput_ne]) <;> omega) (by (try simp (disch := omega) only [xput_eq, xput_ne]) <;> omega) ?_
            refine gS2_skip (by omega) (by (try simp (disch := omega) only [xput_eq, xput_ne]) <;> omega) (by (try simp (disch := omega) only [xput_eq, xput_ne]) <;> omega) ?_
            refine gS3_skip (by omega) (by (try simp (disch := omega) only [xput_eq, xput_ne]) <;> omega) (by (try simp (disch := omega) only [xput_eq, xput_ne]) <;> omega) ?_
            refine gS4_skip (by omega) (by (try simp (disch := omega) only [xput_eq, xput_ne]) <;> omega) (by (try simp (disch := omega) only [xput_eq, xput_ne]) <;> omega) ?_
            refine gS5_skip (by omega) (by (try simp (disch := omega) only [xput_eq, xput_ne]) <;> omega) (by (try simp (disch := omega) only [xput_eq, xput_ne]) <;> omega) ?_
            refine OK_some ⟨⟨?_, ?_, fun h => ?_, fun h => ?_, fun h => ?_, fun h => ?_, fun h => ?_, ?_, ?_, ?_, ?_, ?_, ?_, ?_, fun h h' => ?_, fun h h' => ?_⟩, fun c hc => ⟨?_, ?_, ?_, fun r hr => ?_, ?_, ?_, ?_⟩, ?_, ?_, ?_, fun a j haj => ?_⟩
            all_goals (try simp (disch := omega) only [xput_eq, xput_ne])
            · exact q0
            · rw [hp']; exact q1
            · rw [hp'] at h; omega
            · rw [hp'] at h; omega
            · rw [hp'] at h; omega
            · rw [hp'] at h; omega
            · rw [hp'] at h; omega
            · exact s0
            · rw [s1]; unfold sgF; split <;> split <;> omega
            · exact s2
            · rw [s3]; unfold sgF; split <;> split <;> omega
            · exact s4
            · rw [s5]; unfold sgF; split <;> split <;> omega
            · exact q4
            · exact p7 h (by omega)
            · exact p8 h (by omega)
            · rw [if_neg (by omega), List.append_nil]; refine RQ_of hQ1 ?_ (fun i hi => ?_) <;> (try simp (disch := omega) only [xput_eq, xput_ne])
            · rw [if_neg (by omega), List.append_nil]; refine RQ_of hQ2 ?_ (fun i hi => ?_) <;> (try simp (disch := omega) only [xput_eq, xput_ne])
            · rw [if_neg (by omega)]
          · by_cases a2 : N 0 b + pT (prm β) b 0 = t
            · by_cases a3 : pT (prm β) b 1 = 0
              · have hp : phF (prm β) N (t - 1) b = 1 := by unfold phF; rw [if_neg (by omega), if_neg (by omega), if_neg (by omega), if_pos (by omega), if_pos (by omega)]
                have hp' : phF (prm β) N t b = 3 := by unfold phF; rw [if_neg (by omega), if_neg (by omega), if_neg (by omega), if_pos (by omega), if_neg (by omega), if_neg (by omega)]
                rw [hp] at q1
                have hu := u1 hp
                rw [goes_eq]
                simp (disch := omega) only [zI_of (n := (b : Int)), tn_cast, xck_of, xlet_eq]
                refine gS1_act (t := t) hk hβ hV (by omega) q1 h34 ht (by omega) q0 hd ?_
                rw [e1]
                refine gS2_act (t := t) (l := Q1.length) (by omega) (by (try simp (disch := omega) only [xput_eq, xput_ne]) <;> omega) (by (try simp (disch := omega) only [xput_eq, xput_ne]) <;> omega) ht (by (try simp (disch := omega) only [xput_eq, xput_ne]) <;> omega) (by (try simp (disch := omega) only [xput_eq, xput_ne]); exact hQ1.1) (hl1 (by omega)) ?_
                refine gS3_skip (by omega) (by (try simp (disch := omega) only [xput_eq, xput_ne]) <;> omega) (by (try simp (disch := omega) only [xput_eq, xput_ne]) <;> omega) ?_
                refine gS4_skip (by omega) (by (try simp (disch := omega) only [xput_eq, xput_ne]) <;> omega) (by (try simp (disch := omega) only [xput_eq, xput_ne]) <;> omega) ?_
                refine gS5_skip (by omega) (by (try simp (disch := omega) only [xput_eq, xput_ne]) <;> omega) (by (try simp (disch := omega) only [xput_eq, xput_ne]) <;> omega) ?_
                refine OK_some ⟨⟨?_, ?_, fun h => ?_, fun h => ?_, fun h => ?_, fun h => ?_, fun h => ?_, ?_, ?_, ?_, ?_, ?_, ?_, ?_, fun h h' => ?_, fun h h' => ?_⟩, fun c hc => ⟨?_, ?_, ?_, fun r hr => ?_, ?_, ?_, ?_⟩, ?_, ?_, ?_, fun a j haj => ?_⟩
                all_goals (try simp (disch := omega) only [xput_eq, xput_ne])
                · exact q0
                · rw [hp']
                · rw [hp'] at h; omega
                · rw [hp'] at h; omega
                · rw [hp'] at h; omega
                · rw [hp'] at h; omega
                · rw [hp'] at h; omega
                · exact s0
                · unfold sgF; split <;> omega
                · exact s2
                · rw [s3]; unfold sgF; split <;> split <;> omega
                · exact s4
                · rw [s5]; unfold sgF; split <;> split <;> omega
                · exact q4
                · exact p7 h (by omega)
                · omega
                · rw [if_pos (by omega)]; refine RQ_app' hQ1 ?_ ?_ (fun x hx => ?_) <;> simp (disch := omega) only [xput_eq, xput_ne] <;> omega
                · rw [if_neg (by omega), List.append_nil]; refine RQ_of hQ2 ?_ (fun i hi => ?_) <;> (try simp (disch := omega) only [xput_eq, xput_ne])
                · rw [if_neg (by omega)]
              · have hp : phF (prm β) N (t - 1) b = 1 := by unfold phF; rw [if_neg (by omega), if_neg (by omega), if_neg (by omega), if_pos (by omega), if_pos (by omega)]
                have hp' : phF (prm β) N t b = 2 := by unfold phF; rw [if_neg (by omega), if_neg (by omega), if_neg (by omega), if_pos (by omega), if_neg (by omega), if_pos (by omega)]
                rw [hp] at q1
                have hu := u1 hp
                rw [goes_eq]
                simp (disch := omega) only [zI_of (n := (b : Int)), tn_cast, xck_of, xlet_eq]
                refine gS1_act (t := t) hk hβ hV (by omega) q1 h34 ht (by omega) q0 hd ?_
                rw [e1]
                refine gS2_wait (t := t) (by omega) (by (try simp (disch := omega) only [xput_eq, xput_ne]) <;> omega) (by (try simp (disch := omega) only [xput_eq, xput_ne]) <;> omega) ht (by (try simp (disch := omega) only [xput_eq, xput_ne]) <;> omega) (by (try simp (disch := omega) only [xput_eq, xput_ne]) <;> omega) ?_
                refine gS3_skip (by omega) (by (try simp (disch := omega) only [xput_eq, xput_ne]) <;> omega) (by (try simp (disch := omega) only [xput_eq, xput_ne]) <;> omega) ?_
                refine gS4_skip (by omega) (by (try simp (disch := omega) only [xput_eq, xput_ne]) <;> omega) (by (try simp (disch := omega) only [xput_eq, xput_ne]) <;> omega) ?_
                refine gS5_skip (by omega) (by (try simp (disch := omega) only [xput_eq, xput_ne]) <;> omega) (by (try simp (disch := omega) only [xput_eq, xput_ne]) <;> omega) ?_
                refine OK_some ⟨⟨?_, ?_, fun h => ?_, fun h => ?_, fun h => ?_, fun h => ?_, fun h => ?_, ?_, ?_, ?_, ?_, ?_, ?_, ?_, fun h h' => ?_, fun h h' => ?_⟩, fun c hc => ⟨?_, ?_, ?_, fun r hr => ?_, ?_, ?_, ?_⟩, ?_, ?_, ?_, fun a j haj => ?_⟩
                all_goals (try simp (disch := omega) only [xput_eq, xput_ne])
                · exact q0
                · rw [hp']
                · rw [hp'] at h; omega
                · rw [hp'] at h; omega
                · rw [hp'] at h; omega
                · rw [hp'] at h; omega
                · rw [hp'] at h; omega
                · exact s0
                · unfold sgF; split <;> omega
                · exact s2
                · rw [s3]; unfold sgF; split <;> split <;> omega
                · exact s4
                · rw [s5]; unfold sgF; split <;> split <;> omega
                · exact q4
                · exact p7 h (by omega)
                · exact p8 h (by omega)
                · rw [if_neg (by omega), List.append_nil]; refine RQ_of hQ1 ?_ (fun i hi => ?_) <;> (try simp (disch := omega) only [xput_eq, xput_ne])
                · rw [if_neg (by omega), List.append_nil]; refine RQ_of hQ2 ?_ (fun i hi => ?_) <;> (try simp (disch := omega) only [xput_eq, xput_ne])
                · rw [if_neg (by omega)]
            · by_cases a3 : t < rE (prm β) N b
              · have hp : phF (prm β) N (t - 1) b = 2 := by unfold phF; rw [if_neg (by omega), if_neg (by omega), if_neg (by omega), if_pos (by omega), if_neg (by omega), if_pos (by omega)]
                have hp' : phF (prm β) N t b = 2 := by unfold phF; rw [if_neg (by omega), if_neg (by omega), if_neg (by omega), if_pos (by omega), if_neg (by omega), if_pos (by omega)]
                rw [hp] at q1
                have hu := u2 hp
                rw [goes_eq]
                simp (disch := omega) only [zI_of (n := (b : Int)), tn_cast, xck_of, xlet_eq]
                refine gS1_skip (by omega) (by (try simp (disch := omega) only [xput_eq, xput_ne]) <;> omega) (by (try simp (disch := omega) only [xput_eq, xput_ne]) <;> omega) ?_
                refine gS2_wait (t := t) (by omega) (by (try simp (disch := omega) only [xput_eq, xput_ne]) <;> omega) (by (try simp (disch := omega) only [xput_eq, xput_ne]) <;> omega) ht (by (try simp (disch := omega) only [xput_eq, xput_ne]) <;> omega) (by (try simp (disch := omega) only [xput_eq, xput_ne]) <;> omega) ?_
                refine gS3_skip (by omega) (by (try simp (disch := omega) only [xput_eq, xput_ne]) <;> omega) (by (try simp (disch := omega) only [xput_eq, xput_ne]) <;> omega) ?_
                refine gS4_skip (by omega) (by (try simp (disch := omega) only [xput_eq, xput_ne]) <;> omega) (by (try simp (disch := omega) only [xput_eq, xput_ne]) <;> omega) ?_
                refine gS5_skip (by omega) (by (try simp (disch := omega) only [xput_eq, xput_ne]) <;> omega) (by (try simp (disch := omega) only [xput_eq, xput_ne]) <;> omega) ?_
                refine OK_some ⟨⟨?_, ?_, fun h => ?_, fun h => ?_, fun h => ?_, fun h => ?_, fun h => ?_, ?_, ?_, ?_, ?_, ?_, ?_, ?_, fun h h' => ?_, fun h h' => ?_⟩, fun c hc => ⟨?_, ?_, ?_, fun r hr => ?_, ?_, ?_, ?_⟩, ?_, ?_, ?_, fun a j haj => ?_⟩
                all_goals (try simp (disch := omega) only [xput_eq, xput_ne])
                · exact q0
                · rw [hp']; exact q1
                · rw [hp'] at h; omega
                · rw [hp'] at h; omega
                · rw [hp'] at h; omega
                · rw [hp'] at h; omega
                · rw [hp'] at h; omega
                · exact s0
                · rw [s1]; unfold sgF; split <;> split <;> omega
                · exact s2
                · rw [s3]; unfold sgF; split <;> split <;> omega
                · exact s4
                · rw [s5]; unfold sgF; split <;> split <;> omega
                · exact q4
                · exact p7 h (by omega)
                · exact p8 h (by omega)
                · rw [if_neg (by omega), List.append_nil]; refine RQ_of hQ1 ?_ (fun i hi => ?_) <;> (try simp (disch := omega) only [xput_eq, xput_ne])
                · rw [if_neg (by omega), List.append_nil]; refine RQ_of hQ2 ?_ (fun i hi => ?_) <;> (try simp (disch := omega) only [xput_eq, xput_ne])
                · rw [if_neg (by omega)]
              · by_cases a4 : rE (prm β) N b = t
                · have hp : phF (prm β) N (t - 1) b = 2 := by unfold phF; rw [if_neg (by omega), if_neg (by omega), if_neg (by omega), if_pos (by omega), if_neg (by omega), if_pos (by omega)]
                  have hp' : phF (prm β) N t b = 3 := by unfold phF; rw [if_neg (by omega), if_neg (by omega), if_neg (by omega), if_pos (by omega), if_neg (by omega), if_neg (by omega)]
                  rw [hp] at q1
                  have hu := u2 hp
                  rw [goes_eq]
                  simp (disch := omega) only [zI_of (n := (b : Int)), tn_cast, xck_of, xlet_eq]
                  refine gS1_skip (by omega) (by (try simp (disch := omega) only [xput_eq, xput_ne]) <;> omega) (by (try simp (disch := omega) only [xput_eq, xput_ne]) <;> omega) ?_
                  refine gS2_act (t := t) (l := Q1.length) (by omega) (by (try simp (disch := omega) only [xput_eq, xput_ne]) <;> omega) (by (try simp (disch := omega) only [xput_eq, xput_ne]) <;> omega) ht (by (try simp (disch := omega) only [xput_eq, xput_ne]) <;> omega) (by (try simp (disch := omega) only [xput_eq, xput_ne]); exact hQ1.1) (hl1 (by omega)) ?_
                  refine gS3_skip (by omega) (by (try simp (disch := omega) only [xput_eq, xput_ne]) <;> omega) (by (try simp (disch := omega) only [xput_eq, xput_ne]) <;> omega) ?_
                  refine gS4_skip (by omega) (by (try simp (disch := omega) only [xput_eq, xput_ne]) <;> omega) (by (try simp (disch := omega) only [xput_eq, xput_ne]) <;> omega) ?_
                  refine gS5_skip (by omega) (by (try simp (disch := omega) only [xput_eq, xput_ne]) <;> omega) (by (try simp (disch := omega) only [xput_eq, xput_ne]) <;> omega) ?_
                  refine OK_some ⟨⟨?_, ?_, fun h => ?_, fun h => ?_, fun h => ?_, fun h => ?_, fun h => ?_, ?_, ?_, ?_, ?_, ?_, ?_, ?_, fun h h' => ?_, fun h h' => ?_⟩, fun c hc => ⟨?_, ?_, ?_, fun r hr => ?_, ?_, ?_, ?_⟩, ?_, ?_, ?_, fun a j haj => ?_⟩
                  all_goals (try simp (disch := omega) only [xput_eq, xput_ne])
                  · exact q0
                  · rw [hp']
                  · rw [hp'] at h; omega
                  · rw [hp'] at h; omega
                  · rw [hp'] at h; omega
                  · rw [hp'] at h; omega
                  · rw [hp'] at h; omega
                  · exact s0
                  · rw [s1]; unfold sgF; split <;> split <;> omega
                  · exact s2
                  · rw [s3]; unfold sgF; split <;> split <;> omega
                  · exact s4
                  · rw [s5]; unfold sgF; split <;> split <;> omega
                  · exact q4
                  · exact p7 h (by omega)
                  · omega
                  · rw [if_pos (by omega)]; refine RQ_app' hQ1 ?_ ?_ (fun x hx => ?_) <;> simp (disch := omega) only [xput_eq, xput_ne] <;> omega
                  · rw [if_neg (by omega), List.append_nil]; refine RQ_of hQ2 ?_ (fun i hi => ?_) <;> (try simp (disch := omega) only [xput_eq, xput_ne])
                  · rw [if_neg (by omega)]
                · have hp : phF (prm β) N (t - 1) b = 3 := by unfold phF; rw [if_neg (by omega), if_neg (by omega), if_neg (by omega), if_pos (by omega), if_neg (by omega), if_neg (by omega)]
                  have hp' : phF (prm β) N t b = 3 := by unfold phF; rw [if_neg (by omega), if_neg (by omega), if_neg (by omega), if_pos (by omega), if_neg (by omega), if_neg (by omega)]
                  rw [hp] at q1
                  rw [goes_eq]
                  simp (disch := omega) only [zI_of (n := (b : Int)), tn_cast, xck_of, xlet_eq]
                  refine gS1_skip (by omega) (by (try simp (disch := omega) only [xput_eq, xput_ne]) <;> omega) (by (try simp (disch := omega) only [xput_eq, xput_ne]) <;> omega) ?_
                  refine gS2_skip (by omega) (by (try simp (disch := omega) only [xput_eq, xput_ne]) <;> omega) (by (try simp (disch := omega) only [xput_eq, xput_ne]) <;> omega) ?_
                  refine gS3_skip (by omega) (by (try simp (disch := omega) only [xput_eq, xput_ne]) <;> omega) (by (try simp (disch := omega) only [xput_eq, xput_ne]) <;> omega) ?_
                  refine gS4_skip (by omega) (by (try simp (disch := omega) only [xput_eq, xput_ne]) <;> omega) (by (try simp (disch := omega) only [xput_eq, xput_ne]) <;> omega) ?_
                  refine gS5_skip (by omega) (by (try simp (disch := omega) only [xput_eq, xput_ne]) <;> omega) (by (try simp (disch := omega) only [xput_eq, xput_ne]) <;> omega) ?_
                  refine OK_some ⟨⟨?_, ?_, fun h => ?_, fun h => ?_, fun h => ?_, fun h => ?_, fun h => ?_, ?_, ?_, ?_, ?_, ?_, ?_, ?_, fun h h' => ?_, fun h h' => ?_⟩, fun c hc => ⟨?_, ?_, ?_, fun r hr => ?_, ?_, ?_, ?_⟩, ?_, ?_, ?_, fun a j haj => ?_⟩
                  all_goals (try simp (disch := omega) only [xput_eq, xput_ne])
                  · exact q0
                  · rw [hp']; exact q1
                  · rw [hp'] at h; omega
                  · rw [hp'] at h; omega
                  · rw [hp'] at h; omega
                  · rw [hp'] at h; omega
                  · rw [hp'] at h; omega
                  · exact s0
                  · rw [s1]; unfold sgF; split <;> split <;> omega
                  · exact s2
                  · rw [s3]; unfold sgF; split <;> split <;> omega
                  · exact s4
                  · rw [s5]; unfold sgF; split <;> split <;> omega
                  · exact q4
                  · exact p7 h (by omega)
                  · exact p8 h (by omega)
                  · rw [if_neg (by omega), List.append_nil]; refine RQ_of hQ1 ?_ (fun i hi => ?_) <;> (try simp (disch := omega) only [xput_eq, xput_ne])
                  · rw [if_neg (by omega), List.append_nil]; refine RQ_of hQ2 ?_ (fun i hi => ?_) <;> (try simp (disch := omega) only [xput_eq, xput_ne])
                  · rw [if_neg (by omega)]
      · by_cases a1 : t < N 1 b + pT (prm β) b 2
        · have hp : phF (prm β) N (t - 1) b = 4 := by unfold phF; rw [if_neg (by omega), if_neg (by omega), if_pos (by omega), if_pos (by omega)]
          have hp' : phF (prm β) N t b = 4 := by unfold phF; rw [if_neg (by omega), if_neg (by omega), if_pos (by omega), if_pos (by omega)]
          rw [hp] at q1
          have hu := u4 hp
          rw [goes_eq]
          simp (disch := omega) only [zI_of (n := (b : Int)), tn_cast, xck_of, xlet_eq]
          refine gS1_skip (by omega) (by (try simp (disch := omega) only [xput_eq, xput_ne]) <;> omega) (by (try simp (disch := omega) only [xput_eq, xput_ne]) <;> omega) ?_
          refine gS2_skip (by omega) (by (try simp (disch := omega) only [xput_eq, xput_ne]) <;> omega) (by (try simp (disch := omega) only [xput_eq, xput_ne]) <;> omega) ?_
          refine gS3_wait (t := t) (by omega) (by (try simp (disch := omega) only [xput_eq, xput_ne]) <;> omega) (by (try simp (disch := omega) only [xput_eq, xput_ne]) <;> omega) ht (by (try simp (disch := omega) only [xput_eq, xput_ne]) <;> omega) (by (try simp (disch := omega) only [xput_eq, xput_ne]) <;> omega) ?_
          refine gS4_skip (by omega) (by (try simp (disch := omega) only [xput_eq, xput_ne]) <;> omega) (by (try simp (disch := omega) only [xput_eq, xput_ne]) <;> omega) ?_
          refine gS5_skip (by omega) (by (try simp (disch := omega) only [xput_eq, xput_ne]) <;> omega) (by (try simp (disch := omega) only [xput_eq, xput_ne]) <;> omega) ?_
          refine OK_some ⟨⟨?_, ?_, fun h => ?_, fun h => ?_, fun h => ?_, fun h => ?_, fun h => ?_, ?_, ?_, ?_, ?_, ?_, ?_, ?_, fun h h' => ?_, fun h h' => ?_⟩, fun c hc => ⟨?_, ?_, ?_, fun r hr => ?_, ?_, ?_, ?_⟩, ?_, ?_, ?_, fun a j haj => ?_⟩
          all_goals (try simp (disch := omega) only [xput_eq, xput_ne])
          · exact q0
          · rw [hp']; exact q1
          · rw [hp'] at h; omega
          · rw [hp'] at h; omega
          · rw [hp'] at h; omega
          · rw [hp'] at h; omega
          · rw [hp'] at h; omega
          · exact s0
          · rw [s1]; unfold sgF; split <;> split <;> omega
          · exact s2
          · rw [s3]; unfold sgF; split <;> split <;> omega
          · exact s4
          · rw [s5]; unfold sgF; split <;> split <;> omega
          · exact q4
          · exact p7 h (by omega)
          · exact p8 h (by omega)
          · rw [if_neg (by omega), List.append_nil]; refine RQ_of hQ1 ?_ (fun i hi => ?_) <;> (try simp (disch := omega) only [xput_eq, xput_ne])
          · rw [if_neg (by omega), List.append_nil]; refine RQ_of hQ2 ?_ (fun i hi => ?_) <;> (try simp (disch := omega) only [xput_eq, xput_ne])
          · rw [if_neg (by omega)]
        · by_cases a2 : N 1 b + pT (prm β) b 2 = t
          · by_cases a3 : pT (prm β) b 3 = 0
            · have hp : phF (prm β) N (t - 1) b = 4 := by unfold phF; rw [if_neg (by omega), if_neg (by omega), if_pos (by omega), if_pos (by omega)]
              have hp' : phF (prm β) N t b = 6 := by unfold phF; rw [if_neg (by omega), if_neg (by omega), if_pos (by omega), if_neg (by omega), if_neg (by omega)]
              rw [hp] at q1
              have hu := u4 hp
              rw [goes_eq]
              simp (disch := omega) only [zI_of (n := (b : Int)), tn_cast, xck_of, xlet_eq]
              refine gS1_skip (by omega) (by (try simp (disch := omega) only [xput_eq, xput_ne]) <;> omega) (by (try simp (disch := omega) only [xput_eq, xput_ne]) <;> omega) ?_
              refine gS2_skip (by omega) (by (try simp (disch := omega) only [xput_eq, xput_ne]) <;> omega) (by (try simp (disch := omega) only [xput_eq, xput_ne]) <;> omega) ?_
              refine gS3_act (t := t) hk hβ hV (by omega) q1 h34 ht (by omega) q0 hd ?_
              rw [e3]
              refine gS4_act (t := t) (l := Q2.length) (by omega) (by (try simp (disch := omega) only [xput_eq, xput_ne]) <;> omega) (by (try simp (disch := omega) only [xput_eq, xput_ne]) <;> omega) ht (by (try simp (disch := omega) only [xput_eq, xput_ne]) <;> omega) (by (try simp (disch := omega) only [xput_eq, xput_ne]); exact hQ2.1) (hl2 (by omega)) ?_
              refine gS5_skip (by omega) (by (try simp (disch := omega) only [xput_eq, xput_ne]) <;> omega) (by (try simp (disch := omega) only [xput_eq, xput_ne]) <;> omega) ?_
              refine OK_some ⟨⟨?_, ?_, fun h => ?_, fun h => ?_, fun h => ?_, fun h => ?_, fun h => ?_, ?_, ?_, ?_, ?_, ?_, ?_, ?_, fun h h' => ?_, fun h h' => ?_⟩, fun c hc => ⟨?_, ?_, ?_, fun r hr => ?_, ?_, ?_, ?_⟩, ?_, ?_, ?_, fun a j haj => ?_⟩
              all_goals (try simp (disch := omega) only [xput_eq, xput_ne])
              · exact q0
              · rw [hp']
              · rw [hp'] at h; omega
              · rw [hp'] at h; omega
              · rw [hp'] at h; omega
              · rw [hp'] at h; omega
              · rw [hp'] at h; omega
              · exact s0
              · rw [s1]; unfold sgF; split <;> split <;> omega
              · exact s2
              · unfold sgF; split <;> omega
              · exact s4
              · rw [s5]; unfold sgF; split <;> split <;> omega
              · exact q4
              · omega
              · exact p8 h (by omega)
              · rw [if_neg (by omega), List.append_nil]; refine RQ_of hQ1 ?_ (fun i hi => ?_) <;> (try simp (disch := omega) only [xput_eq, xput_ne])
              · rw [if_pos (by omega)]; refine RQ_app' hQ2 ?_ ?_ (fun x hx => ?_) <;> simp (disch := omega) only [xput_eq, xput_ne] <;> omega
              · rw [if_neg (by omega)]
            · have hp : phF (prm β) N (t - 1) b = 4 := by unfold phF; rw [if_neg (by omega), if_neg (by omega), if_pos (by omega), if_pos (by omega)]
              have hp' : phF (prm β) N t b = 5 := by unfold phF; rw [if_neg (by omega), if_neg (by omega), if_pos (by omega), if_neg (by omega), if_pos (by omega)]
              rw [hp] at q1
              have hu := u4 hp
              rw [goes_eq]
              simp (disch := omega) only [zI_of (n := (b : Int)), tn_cast, xck_of, xlet_eq]
              refine gS1_skip (by omega) (by (try simp (disch := omega) only [xput_eq, xput_ne]) <;> omega) (by (try simp (disch := omega) only [xput_eq, xput_ne]) <;> omega) ?_
              refine gS2_skip (by omega) (by (try simp (disch := omega) only [xput_eq, xput_ne]) <;> omega) (by (try simp (disch := omega) only [xput_eq, xput_ne]) <;> omega) ?_
              refine gS3_act (t := t) hk hβ hV (by omega) q1 h34 ht (by omega) q0 hd ?_
              rw [e3]
              refine gS4_wait (t := t) (by omega) (by (try simp (disch := omega) only [xput_eq, xput_ne]) <;> omega) (by (try simp (disch := omega) only [xput_eq, xput_ne]) <;> omega) ht (by (try simp (disch := omega) only [xput_eq, xput_ne]) <;> omega) (by (try simp (disch := omega) only [xput_eq, xput_ne]) <;> omega) ?_
              refine gS5_skip (by omega) (by (try simp (disch := omega) only [xput_eq, xput_ne]) <;> omega) (by (try simp (disch := omega) only [xput_eq, xput_ne]) <;> omega) ?_
              refine OK_some ⟨⟨?_, ?_, fun h => ?_, fun h => ?_, fun h => ?_, fun h => ?_, fun h => ?_, ?_, ?_, ?_, ?_, ?_, ?_, ?_, fun h h' => ?_, fun h h' => ?_⟩, fun c hc => ⟨?_, ?_, ?_, fun r hr => ?_, ?_, ?_, ?_⟩, ?_, ?_, ?_, fun a j haj => ?_⟩
              all_goals (try simp (disch := omega) only [xput_eq, xput_ne])
              · exact q0
              · rw [hp']
              · rw [hp'] at h; omega
              · rw [hp'] at h; omega
              · rw [hp'] at h; omega
              · rw [hp'] at h; omega
              · rw [hp'] at h; omega
              · exact s0
              · rw [s1]; unfold sgF; split <;> split <;> omega
              · exact s2
              · unfold sgF; split <;> omega
              · exact s4
              · rw [s5]; unfold sgF; split <;> split <;> omega
              · exact q4
              · exact p7 h (by omega)
              · exact p8 h (by omega)
              · rw [if_neg (by omega), List.append_nil]; refine RQ_of hQ1 ?_ (fun i hi => ?_) <;> (try simp (disch := omega) only [xput_eq, xput_ne])
              · rw [if_neg (by omega), List.append_nil]; refine RQ_of hQ2 ?_ (fun i hi => ?_) <;> (try simp (disch := omega) only [xput_eq, xput_ne])
              · rw [if_neg (by omega)]
          · by_cases a3 : t < pE (prm β) N b
            · have hp : phF (prm β) N (t - 1) b = 5 := by unfold phF; rw [if_neg (by omega), if_neg (by omega), if_pos (by omega), if_neg (by omega), if_pos (by omega)]
              have hp' : phF (prm β) N t b = 5 := by unfold phF; rw [if_neg (by omega), if_neg (by omega), if_pos (by omega), if_neg (by omega), if_pos (by omega)]
              rw [hp] at q1
              have hu := u5 hp
              rw [goes_eq]
              simp (disch := omega) only [zI_of (n := (b : Int)), tn_cast, xck_of, xlet_eq]
              refine gS1_skip (by omega) (by (try simp (disch := omega) only [xput_eq, xput_ne]) <;> omega) (by (try simp (disch := omega) only [xput_eq, xput_ne]) <;> omega) ?_
              refine gS2_skip (by omega) (by (try simp (disch := omega) only [xput_eq, xput_ne]) <;> omega) (by (try simp (disch := omega) only [xput_eq, xput_ne]) <;> omega) ?_
              refine gS3_skip (by omega) (by (try simp (disch := omega) only [xput_eq, xput_ne]) <;> omega) (by (try simp (disch := omega) only [xput_eq, xput_ne]) <;> omega) ?_
              refine gS4_wait (t := t) (by omega) (by (try simp (disch := omega) only [xput_eq, xput_ne]) <;> omega) (by (try simp (disch := omega) only [xput_eq, xput_ne]) <;> omega) ht (by (try simp (disch := omega) only [xput_eq, xput_ne]) <;> omega) (by (try simp (disch := omega) only [xput_eq, xput_ne]) <;> omega) ?_
              refine gS5_skip (by omega) (by (try simp (disch := omega) only [xput_eq, xput_ne]) <;> omega) (by (try simp (disch := omega) only [xput_eq, xput_ne]) <;> omega) ?_
              refine OK_some ⟨⟨?_, ?_, fun h => ?_, fun h => ?_, fun h => ?_, fun h => ?_, fun h => ?_, ?_, ?_, ?_, ?_, ?_, ?_, ?_, fun h h' => ?_, fun h h' => ?_⟩, fun c hc => ⟨?_, ?_, ?_, fun r hr => ?_, ?_, ?_, ?_⟩, ?_, ?_, ?_, fun a j haj => ?_⟩
              all_goals (try simp (disch := omega) only [xput_eq, xput_ne])
              · exact q0
              · rw [hp']; exact q1
              · rw [hp'] at h; omega
              · rw [hp'] at h; omega
              · rw [hp'] at h; omega
              · rw [hp'] at h; omega
              · rw [hp'] at h; omega
              · exact s0
              · rw [s1]; unfold sgF; split <;> split <;> omega
              · exact s2
              · rw [s3]; unfold sgF; split <;> split <;> omega
              · exact s4
              · rw [s5]; unfold sgF; split <;> split <;> omega
              · exact q4
              · exact p7 h (by omega)
              · exact p8 h (by omega)
              · rw [if_neg (by omega), List.append_nil]; refine RQ_of hQ1 ?_ (fun i hi => ?_) <;> (try simp (disch := omega) only [xput_eq, xput_ne])
              · rw [if_neg (by omega), List.append_nil]; refine RQ_of hQ2 ?_ (fun i hi => ?_) <;> (try simp (disch := omega) only [xput_eq, xput_ne])
              · rw [if_neg (by omega)]
            · by_cases a4 : pE (prm β) N b = t
              · have hp : phF (prm β) N (t - 1) b = 5 := by unfold phF; rw [if_neg (by omega), if_neg (by omega), if_pos (by omega), if_neg (by omega), if_pos (by omega)]
                have hp' : phF (prm β) N t b = 6 := by unfold phF; rw [if_neg (by omega), if_neg (by omega), if_pos (by omega), if_neg (by omega), if_neg (by omega)]
                rw [hp] at q1
                have hu := u5 hp
                rw [goes_eq]
                simp (disch := omega) only [zI_of (n := (b : Int)), tn_cast, xck_of, xlet_eq]
                refine gS1_skip (by omega) (by (try simp (disch := omega) only [xput_eq, xput_ne]) <;> omega) (by (try simp (disch := omega) only [xput_eq, xput_ne]) <;> omega) ?_
                refine gS2_skip (by omega) (by (try simp (disch := omega) only [xput_eq, xput_ne]) <;> omega) (by (try simp (disch := omega) only [xput_eq, xput_ne]) <;> omega) ?_
                refine gS3_skip (by omega) (by (try simp (disch := omega) only [xput_eq, xput_ne]) <;> omega) (by (try simp (disch := omega) only [xput_eq, xput_ne]) <;> omega) ?_
                refine gS4_act (t := t) (l := Q2.length) (by omega) (by (try simp (disch := omega) only [xput_eq, xput_ne]) <;> omega) (by (try simp (disch := omega) only [xput_eq, xput_ne]) <;> omega) ht (by (try simp (disch := omega) only [xput_eq, xput_ne]) <;> omega) (by (try simp (disch := omega) only [xput_eq, xput_ne]); exact hQ2.1) (hl2 (by omega)) ?_
                refine gS5_skip (by omega) (by (try simp (disch := omega) only [xput_eq, xput_ne]) <;> omega) (by (try simp (disch := omega) only [xput_eq, xput_ne]) <;> omega) ?_
                refine OK_some ⟨⟨?_, ?_, fun h => ?_, fun h => ?_, fun h => ?_, fun h => ?_, fun h => ?_, ?_, ?_, ?_, ?_, ?_, ?_, ?_, fun h h' => ?_, fun h h' => ?_⟩, fun c hc => ⟨?_, ?_, ?_, fun r hr => ?_, ?_, ?_, ?_⟩, ?_, ?_, ?_, fun a j haj => ?_⟩
                all_goals (try simp (disch := omega) only [xput_eq, xput_ne])
                · exact q0
                · rw [hp']
                · rw [hp'] at h; omega
                · rw [hp'] at h; omega
                · rw [hp'] at h; omega
                · rw [hp'] at h; omega
                · rw [hp'] at h; omega
                · exact s0
                · rw [s1]; unfold sgF; split <;> split <;> omega
                · exact s2
                · rw [s3]; unfold sgF; split <;> split <;> omega
                · exact s4
                · rw [s5]; unfold sgF; split <;> split <;> omega
                · exact q4
                · omega
                · exact p8 h (by omega)
                · rw [if_neg (by omega), List.append_nil]; refine RQ_of hQ1 ?_ (fun i hi => ?_) <;> (try simp (disch := omega) only [xput_eq, xput_ne])
                · rw [if_pos (by omega)]; refine RQ_app' hQ2 ?_ ?_ (fun x hx => ?_) <;> simp (disch := omega) only [xput_eq, xput_ne] <;> omega
                · rw [if_neg (by omega)]
              · have hp : phF (prm β) N (t - 1) b = 6 := by unfold phF; rw [if_neg (by omega), if_neg (by omega), if_pos (by omega), if_neg (by omega), if_neg (by omega)]
                have hp' : phF (prm β) N t b = 6 := by unfold phF; rw [if_neg (by omega), if_neg (by omega), if_pos (by omega), if_neg (by omega), if_neg (by omega)]
                rw [hp] at q1
                rw [goes_eq]
                simp (disch := omega) only [zI_of (n := (b : Int)), tn_cast, xck_of, xlet_eq]
                refine gS1_skip (by omega) (by (try simp (disch := omega) only [xput_eq, xput_ne]) <;> omega) (by (try simp (disch := omega) only [xput_eq, xput_ne]) <;> omega) ?_
                refine gS2_skip (by omega) (by (try simp (disch := omega) only [xput_eq, xput_ne]) <;> omega) (by (try simp (disch := omega) only [xput_eq, xput_ne]) <;> omega) ?_
                refine gS3_skip (by omega) (by (try simp (disch := omega) only [xput_eq, xput_ne]) <;> omega) (by (try simp (disch := omega) only [xput_eq, xput_ne]) <;> omega) ?_
                refine gS4_skip (by omega) (by (try simp (disch := omega) only [xput_eq, xput_ne]) <;> omega) (by (try simp (disch := omega) only [xput_eq, xput_ne]) <;> omega) ?_
                refine gS5_skip (by omega) (by (try simp (disch := omega) only [xput_eq, xput_ne]) <;> omega) (by (try simp (disch := omega) only [xput_eq, xput_ne]) <;> omega) ?_
                refine OK_some ⟨⟨?_, ?_, fun h => ?_, fun h => ?_, fun h => ?_, fun h => ?_, fun h => ?_, ?_, ?_, ?_, ?_, ?_, ?_, ?_, fun h h' => ?_, fun h h' => ?_⟩, fun c hc => ⟨?_, ?_, ?_, fun r hr => ?_, ?_, ?_, ?_⟩, ?_, ?_, ?_, fun a j haj => ?_⟩
                all_goals (try simp (disch := omega) only [xput_eq, xput_ne])
                · exact q0
                · rw [hp']; exact q1
                · rw [hp'] at h; omega
                · rw [hp'] at h; omega
                · rw [hp'] at h; omega
                · rw [hp'] at h; omega
                · rw [hp'] at h; omega
                · exact s0
                · rw [s1]; unfold sgF; split <;> split <;> omega
                · exact s2
                · rw [s3]; unfold sgF; split <;> split <;> omega
                · exact s4
                · rw [s5]; unfold sgF; split <;> split <;> omega
                · exact q4
                · exact p7 h (by omega)
                · exact p8 h (by omega)
                · rw [if_neg (by omega), List.append_nil]; refine RQ_of hQ1 ?_ (fun i hi => ?_) <;> (try simp (disch := omega) only [xput_eq, xput_ne])
                · rw [if_neg (by omega), List.append_nil]; refine RQ_of hQ2 ?_ (fun i hi => ?_) <;> (try simp (disch := omega) only [xput_eq, xput_ne])
                · rw [if_neg (by omega)]
    · by_cases a1 : t < N 2 b + pT (prm β) b 5
      · have hp : phF (prm β) N (t - 1) b = 7 := by unfold phF; rw [if_neg (by omega), if_pos (by omega), if_pos (by omega)]
        have hp' : phF (prm β) N t b = 7 := by unfold phF; rw [if_neg (by omega), if_pos (by omega), if_pos (by omega)]
        rw [hp] at q1
        have hu := u7 hp
        rw [goes_eq]
        simp (disch := omega) only [zI_of (n := (b : Int)), tn_cast, xck_of, xlet_eq]
        refine gS1_skip (by omega) (by (try simp (disch := omega) only [xput_eq, xput_ne]) <;> omega) (by (try simp (disch := omega) only [xput_eq, xput_ne]) <;> omega) ?_
        refine gS2_skip (by omega) (by (try simp (disch := omega) only [xput_eq, xput_ne]) <;> omega) (by (try simp (disch := omega) only [xput_eq, xput_ne]) <;> omega) ?_
        refine gS3_skip (by omega) (by (try simp (disch := omega) only [xput_eq, xput_ne]) <;> omega) (by (try simp (disch := omega) only [xput_eq, xput_ne]) <;> omega) ?_
        refine gS4_skip (by omega) (by (try simp (disch := omega) only [xput_eq, xput_ne]) <;> omega) (by (try simp (disch := omega) only [xput_eq, xput_ne]) <;> omega) ?_
        refine gS5_wait (t := t) (by omega) (by (try simp (disch := omega) only [xput_eq, xput_ne]) <;> omega) (by (try simp (disch := omega) only [xput_eq, xput_ne]) <;> omega) ht (by (try simp (disch := omega) only [xput_eq, xput_ne]) <;> omega) (by (try simp (disch := omega) only [xput_eq, xput_ne]) <;> omega) ?_
        refine OK_some ⟨⟨?_, ?_, fun h => ?_, fun h => ?_, fun h => ?_, fun h => ?_, fun h => ?_, ?_, ?_, ?_, ?_, ?_, ?_, ?_, fun h h' => ?_, fun h h' => ?_⟩, fun c hc => ⟨?_, ?_, ?_, fun r hr => ?_, ?_, ?_, ?_⟩, ?_, ?_, ?_, fun a j haj => ?_⟩
        all_goals (try simp (disch := omega) only [xput_eq, xput_ne])
        · exact q0
        · rw [hp']; exact q1
        · rw [hp'] at h; omega
        · rw [hp'] at h; omega
        · rw [hp'] at h; omega
        · rw [hp'] at h; omega
        · rw [hp'] at h; omega
        · exact s0
        · rw [s1]; unfold sgF; split <;> split <;> omega
        · exact s2
        · rw [s3]; unfold sgF; split <;> split <;> omega
        · exact s4
        · rw [s5]; unfold sgF; split <;> split <;> omega
        · exact q4
        · exact p7 h (by omega)
        · exact p8 h (by omega)
        · rw [if_neg (by omega), List.append_nil]; refine RQ_of hQ1 ?_ (fun i hi => ?_) <;> (try simp (disch := omega) only [xput_eq, xput_ne])
        · rw [if_neg (by omega), List.append_nil]; refine RQ_of hQ2 ?_ (fun i hi => ?_) <;> (try simp (disch := omega) only [xput_eq, xput_ne])
        · rw [if_neg (by omega)]
      · by_cases a2 : N 2 b + pT (prm β) b 5 = t
        · have hp : phF (prm β) N (t - 1) b = 7 := by unfold phF; rw [if_neg (by omega), if_pos (by omega), if_pos (by omega)]
          have hp' : phF (prm β) N t b = 8 := by unfold phF; rw [if_neg (by omega), if_pos (by omega), if_neg (by omega)]
          rw [hp] at q1
          have hu := u7 hp
          rw [goes_eq]
          simp (disch := omega) only [zI_of (n := (b : Int)), tn_cast, xck_of, xlet_eq]
          refine gS1_skip (by omega) (by (try simp (disch := omega) only [xput_eq, xput_ne]) <;> omega) (by (try simp (disch := omega) only [xput_eq, xput_ne]) <;> omega) ?_
          refine gS2_skip (by omega) (by (try simp (disch := omega) only [xput_eq, xput_ne]) <;> omega) (by (try simp (disch := omega) only [xput_eq, xput_ne]) <;> omega) ?_
          refine gS3_skip (by omega) (by (try simp (disch := omega) only [xput_eq, xput_ne]) <;> omega) (by (try simp (disch := omega) only [xput_eq, xput_ne]) <;> omega) ?_
          refine gS4_skip (by omega) (by (try simp (disch := omega) only [xput_eq, xput_ne]) <;> omega) (by (try simp (disch := omega) only [xput_eq, xput_ne]) <;> omega) ?_
          refine gS5_act (t := t) (by omega) (by (try simp (disch := omega) only [xput_eq, xput_ne]) <;> omega) (by (try simp (disch := omega) only [xput_eq, xput_ne]) <;> omega) ht (by (try simp (disch := omega) only [xput_eq, xput_ne]) <;> omega) ?_
          refine OK_some ⟨⟨?_, ?_, fun h => ?_, fun h => ?_, fun h => ?_, fun h => ?_, fun h => ?_, ?_, ?_, ?_, ?_, ?_, ?_, ?_, fun h h' => ?_, fun h h' => ?_⟩, fun c hc => ⟨?_, ?_, ?_, fun r hr => ?_, ?_, ?_, ?_⟩, ?_, ?_, ?_, fun a j haj => ?_⟩
          all_goals (try simp (disch := omega) only [xput_eq, xput_ne])
          · exact q0
          · rw [hp']
          · rw [hp'] at h; omega
          · rw [hp'] at h; omega
          · rw [hp'] at h; omega
          · rw [hp'] at h; omega
          · rw [hp'] at h; omega
          · exact s0
          · rw [s1]; unfold sgF; split <;> split <;> omega
          · exact s2
          · rw [s3]; unfold sgF; split <;> split <;> omega
          · exact s4
          · unfold sgF; split <;> omega
          · exact q4
          · exact p7 h (by omega)
          · exact p8 h (by omega)
          · rw [if_neg (by omega), List.append_nil]; refine RQ_of hQ1 ?_ (fun i hi => ?_) <;> (try simp (disch := omega) only [xput_eq, xput_ne])
          · rw [if_neg (by omega), List.append_nil]; refine RQ_of hQ2 ?_ (fun i hi => ?_) <;> (try simp (disch := omega) only [xput_eq, xput_ne])
          · rw [if_pos (by omega)]
        · have hp : phF (prm β) N (t - 1) b = 8 := by unfold phF; rw [if_neg (by omega), if_pos (by omega), if_neg (by omega)]
          have hp' : phF (prm β) N t b = 8 := by unfold phF; rw [if_neg (by omega), if_pos (by omega), if_neg (by omega)]
          rw [hp] at q1
          rw [goes_eq]
          simp (disch := omega) only [zI_of (n := (b : Int)), tn_cast, xck_of, xlet_eq]
          refine gS1_skip (by omega) (by (try simp (disch := omega) only [xput_eq, xput_ne]) <;> omega) (by (try simp (disch := omega) only [xput_eq, xput_ne]) <;> omega) ?_
          refine gS2_skip (by omega) (by (try simp (disch := omega) only [xput_eq, xput_ne]) <;> omega) (by (try simp (disch := omega) only [xput_eq, xput_ne]) <;> omega) ?_
          refine gS3_skip (by omega) (by (try simp (disch := omega) only [xput_eq, xput_ne]) <;> omega) (by (try simp (disch := omega) only [xput_eq, xput_ne]) <;> omega) ?_
          refine gS4_skip (by omega) (by (try simp (disch := omega) only [xput_eq, xput_ne]) <;> omega) (by (try simp (disch := omega) only [xput_eq, xput_ne]) <;> omega) ?_
          refine gS5_skip (by omega) (by (try simp (disch := omega) only [xput_eq, xput_ne]) <;> omega) (by (try simp (disch := omega) only [xput_eq, xput_ne]) <;> omega) ?_
          refine OK_some ⟨⟨?_, ?_, fun h => ?_, fun h => ?_, fun h => ?_, fun h => ?_, fun h => ?_, ?_, ?_, ?_, ?_, ?_, ?_, ?_, fun h h' => ?_, fun h h' => ?_⟩, fun c hc => ⟨?_, ?_, ?_, fun r hr => ?_, ?_, ?_, ?_⟩, ?_, ?_, ?_, fun a j haj => ?_⟩
          all_goals (try simp (disch := omega) only [xput_eq, xput_ne])
          · exact q0
          · rw [hp']; exact q1
          · rw [hp'] at h; omega
          · rw [hp'] at h; omega
          · rw [hp'] at h; omega
          · rw [hp'] at h; omega
          · rw [hp'] at h; omega
          · exact s0
          · rw [s1]; unfold sgF; split <;> split <;> omega
          · exact s2
          · rw [s3]; unfold sgF; split <;> split <;> omega
          · exact s4
          · rw [s5]; unfold sgF; split <;> split <;> omega
          · exact q4
          · exact p7 h (by omega)
          · exact p8 h (by omega)
          · rw [if_neg (by omega), List.append_nil]; refine RQ_of hQ1 ?_ (fun i hi => ?_) <;> (try simp (disch := omega) only [xput_eq, xput_ne])
          · rw [if_neg (by omega), List.append_nil]; refine RQ_of hQ2 ?_ (fun i hi => ?_) <;> (try simp (disch := omega) only [xput_eq, xput_ne])
          · rw [if_neg (by omega)]
  · have hp : phF (prm β) N (t - 1) b = 9 := by unfold phF; rw [if_pos (by omega)]
    have hp' : phF (prm β) N t b = 9 := by unfold phF; rw [if_pos (by omega)]
    rw [hp] at q1
    rw [goes_eq]
    simp (disch := omega) only [zI_of (n := (b : Int)), tn_cast, xck_of, xlet_eq]
    refine gS1_skip (by omega) (by (try simp (disch := omega) only [xput_eq, xput_ne]) <;> omega) (by (try simp (disch := omega) only [xput_eq, xput_ne]) <;> omega) ?_
    refine gS2_skip (by omega) (by (try simp (disch := omega) only [xput_eq, xput_ne]) <;> omega) (by (try simp (disch := omega) only [xput_eq, xput_ne]) <;> omega) ?_
    refine gS3_skip (by omega) (by (try simp (disch := omega) only [xput_eq, xput_ne]) <;> omega) (by (try simp (disch := omega) only [xput_eq, xput_ne]) <;> omega) ?_
    refine gS4_skip (by omega) (by (try simp (disch := omega) only [xput_eq, xput_ne]) <;> omega) (by (try simp (disch := omega) only [xput_eq, xput_ne]) <;> omega) ?_
    refine gS5_skip (by omega) (by (try simp (disch := omega) only [xput_eq, xput_ne]) <;> omega) (by (try simp (disch := omega) only [xput_eq, xput_ne]) <;> omega) ?_
    refine OK_some ⟨⟨?_, ?_, fun h => ?_, fun h => ?_, fun h => ?_, fun h => ?_, fun h => ?_, ?_, ?_, ?_, ?_, ?_, ?_, ?_, fun h h' => ?_, fun h h' => ?_⟩, fun c hc => ⟨?_, ?_, ?_, fun r hr => ?_, ?_, ?_, ?_⟩, ?_, ?_, ?_, fun a j haj => ?_⟩
    all_goals (try simp (disch := omega) only [xput_eq, xput_ne])
    · exact q0
    · rw [hp']; exact q1
    · rw [hp'] at h; omega
    · rw [hp'] at h; omega
    · rw [hp'] at h; omega
    · rw [hp'] at h; omega
    · rw [hp'] at h; omega
    · exact s0
    · rw [s1]; unfold sgF; split <;> split <;> omega
    · exact s2
    · rw [s3]; unfold sgF; split <;> split <;> omega
    · exact s4
    · rw [s5]; unfold sgF; split <;> split <;> omega
    · exact q4
    · exact p7 h (by omega)
    · exact p8 h (by omega)
    · rw [if_neg (by omega), List.append_nil]; refine RQ_of hQ1 ?_ (fun i hi => ?_) <;> (try simp (disch := omega) only [xput_eq, xput_ne])
    · rw [if_neg (by omega), List.append_nil]; refine RQ_of hQ2 ?_ (fun i hi => ?_) <;> (try simp (disch := omega) only [xput_eq, xput_ne])
    · rw [if_neg (by omega)]
end RNI
