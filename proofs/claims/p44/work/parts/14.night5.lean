/-! minutes in which nothing happens; the end of the night -/
section NEND
variable {P : NP} {t : Int} {M : NS}
def noEv (P : NP) (t : Int) (M : NS) : Prop :=
  (∀ b, b < M.2.2.2 → M.1 0 b + pT P b 0 ≠ t ∧ rE P M.1 b ≠ t) ∧ (∀ b, M.1 1 b ≠ -1 → M.1 1 b + pT P b 2 ≠ t ∧ pE P M.1 b ≠ t) ∧ (∀ b, M.1 2 b ≠ -1 → M.1 2 b + pT P b 5 ≠ t) ∧ (∀ b, b ∈ M.2.2.1 → pE P M.1 b + pT P b 4 + 1 ≠ t) ∧ (∀ o, o < pv P → M.1 6 o ≠ t)
theorem changeO_stuck {N : Nat → Nat → Int} {h : Int} (hs : stuck P N h t) : changeO P N h t = N := by
  unfold changeO
  split
  · rfl
  · next q =>
    rcases hs with hs | hs
    · exact absurd hs q
    · rw [bestO_none.mpr hs]
theorem bake_idle {N : Nat → Nat → Int} : ∀ (Q done : List Nat), (∀ b, b ∈ Q → freeI P N (pT P b 6) t = pv P ∧ stuck P N (pT P b 6) t) → Q.foldl (bakeS P t) (N, done) = (N, done ++ Q) := by
  intro Q
  induction Q with
  | nil => intro done _; simp
  | cons b Q ih =>
    intro done h
    have hb := h b (by simp)
    have e : bakeS P t (N, done) b = (N, done ++ [b]) := by
      unfold bakeS
      dsimp only
      rw [if_neg (by omega), changeO_stuck hb.2]
    rw [List.foldl_cons, e, ih _ (fun c hc => h c (by simp [hc]))]
    simp
theorem mixR_id {N : Nat → Nat → Int} {m : Nat} : mixR N t m m = N := by
  funext r b
  simp only [mixR]
  rw [if_neg (by omega)]
theorem mstep_same (hS : newS P M.1 t = []) (hO : newO P M.1 t = []) (hl : ∀ b, b ∈ M.2.2.1 → ¬ pT P b 4 < t - pE P M.1 b) (hb : ∀ b, b ∈ M.2.2.1 → freeI P M.1 (pT P b 6) t = pv P ∧ stuck P M.1 (pT P b 6) t) (hk : M.2.1 = [] ∨ pk P ≤ shN P M.1 t) (hm : M.2.2.2 = pn P ∨ pm P ≤ mxN P M.1 t) (h0 : M.2.2.2 ≤ pn P) : mstep P t M = M := by
  have e1 : sQs P t M = M.2.1 := by unfold sQs; rw [hS, List.append_nil]
  have e2 : sQo P t M = M.2.2.1 := by unfold sQo; rw [hO, List.append_nil]
  have e3 : sQk P t M = M.2.2.1 := by
    unfold sQk
    rw [e2]
    refine List.filter_eq_self.mpr fun b hb => ?_
    have := hl b hb
    simp [lateB]
    omega
  have e4 : sN1 P t M = M.1 := by
    funext r b
    simp only [sN1, e2, late_iff]
    rw [if_neg (fun z => hl b z.2.1 z.2.2)]
  have e5 : sA P t M = (M.1, M.2.2.1) := by
    unfold sA bakeR
    rw [e3, e4, bake_idle _ _ hb, List.nil_append]
  have e6 : sK P t M = 0 := by
    unfold sK shCnt
    rw [e1, e5]
    dsimp only
    rcases hk with z | z
    · rw [z]
      have : ((([] : List Nat).length : Nat) : Int) = 0 := rfl
      omega
    · omega
  have e7 : sN3 P t M = M.1 := by
    funext r b
    simp only [sN3, e6, e5, List.take_zero]
    rw [if_neg (fun z => List.not_mem_nil z.2)]
  have e8 : sm P t M = M.2.2.2 := by
    unfold sm mxTo
    rw [e7]
    rcases hm with z | z <;> omega
  rw [mstep_eq, e8, e7, e6, e5, e1, mixR_id]
  rfl
theorem idle (hP : PV P) (I : Minv P t M) (hp : Pst P (t - 1) M) (he : noEv P t M) (ht : 0 ≤ t) : mstep P t M = M := by
  obtain ⟨i0, i1, i2, i3, i4, i5, i6, i7, i8, i8', i10, i9, i11, i12, i13⟩ := I
  obtain ⟨n1, n2, n3, n4, n5⟩ := he
  have hbm : ∀ b, M.1 0 b ≠ -1 → b < M.2.2.2 := fun b h => by
    rcases Nat.lt_or_ge b M.2.2.2 with z | z
    · exact z
    · exact absurd ((i1 b).2 z) h
  have hsh : shN P M.1 t = shN P M.1 (t - 1) := sumTo_congr fun b hb => by
    have : shB P M.1 t b = shB P M.1 (t - 1) b := by
      unfold shB
      by_cases z : M.1 1 b = -1
      · simp [z]
      · have h1 := (n2 b z).1
        rcases i2 b with y | y
        · exact absurd y z
        · have a1 : (M.1 1 b ≤ t) = (M.1 1 b ≤ t - 1) := propext ⟨fun _ => by omega, fun _ => by omega⟩
          have a2 : (t < M.1 1 b + pT P b 2) = (t - 1 < M.1 1 b + pT P b 2) := propext ⟨fun _ => by omega, fun _ => by omega⟩
          simp only [a1, a2]
    rw [this]
  have hmx : mxN P M.1 t = mxN P M.1 (t - 1) := sumTo_congr fun b hb => by
    have : mxB P M.1 t b = mxB P M.1 (t - 1) b := by
      unfold mxB
      by_cases z : M.1 0 b = -1
      · simp [z]
      · have h1 := (n1 b (hbm b z)).1
        have y := (i1 b).1 (hbm b z)
        have a1 : (M.1 0 b ≤ t) = (M.1 0 b ≤ t - 1) := propext ⟨fun _ => by omega, fun _ => by omega⟩
        have a2 : (t < M.1 0 b + pT P b 0) = (t - 1 < M.1 0 b + pT P b 0) := propext ⟨fun _ => by omega, fun _ => by omega⟩
        simp only [a1, a2]
    rw [this]
  have hus : ∀ o, used P M.1 o t = used P M.1 o (t - 1) := fun o => sumTo_congr fun b hb => by
    have : usedB P M.1 o t b = usedB P M.1 o (t - 1) b := by
      unfold usedB
      by_cases z : M.1 2 b = -1
      · simp [z]
      · have h1 := n3 b z
        rcases i3 b with y | y
        · exact absurd y z
        · have a1 : (M.1 2 b ≤ t) = (M.1 2 b ≤ t - 1) := propext ⟨fun _ => by omega, fun _ => by omega⟩
          have a2 : (t < M.1 2 b + pT P b 5) = (t - 1 < M.1 2 b + pT P b 5) := propext ⟨fun _ => by omega, fun _ => by omega⟩
          simp only [a1, a2]
    rw [this]
  have h6 : ∀ o, o < pv P → ((M.1 6 o ≤ t) = (M.1 6 o ≤ t - 1) ∧ (t < M.1 6 o) = (t - 1 < M.1 6 o)) := fun o ho => by
    have := n5 o ho
    exact ⟨propext ⟨fun _ => by omega, fun _ => by omega⟩, propext ⟨fun _ => by omega, fun _ => by omega⟩⟩
  refine mstep_same ?_ ?_ (fun b hb => ?_) (fun b hb => ?_) (by rw [hsh]; exact hp.1) (by rw [hmx]; exact hp.2.1) i0
  · refine List.filter_eq_nil_iff.mpr fun b hb => ?_
    intro z
    simp at z
    exact (n1 b (hbm b z.1)).2 z.2
  · refine List.filter_eq_nil_iff.mpr fun b hb => ?_
    intro z
    simp at z
    exact (n2 b z.1).2 z.2
  · have h := (i7 b).mp hb
    have := i5 b h.1 h.2.2.1 h.2.2.2
    have := n4 b hb
    omega
  · have h := hp.2.2 b hb
    have ef : freeI P M.1 (pT P b 6) t = freeI P M.1 (pT P b 6) (t - 1) := firstTo_congr fun o ho => by
      simp only [isFree, hus, (h6 o ho).1]
    rw [ef]
    refine ⟨h.1, ?_⟩
    rcases h.2 with g | g
    · refine Or.inl ?_
      have : chgI P M.1 (pT P b 6) t = chgI P M.1 (pT P b 6) (t - 1) := firstTo_congr fun o ho => by
        simp only [isChg, (h6 o ho).2]
      rw [this]
      exact g
    · refine Or.inr fun o ho => ?_
      have : canCh P M.1 t o = canCh P M.1 (t - 1) o := by
        simp only [canCh, hus, (h6 o ho).1]
      rw [this]
      exact g o ho
def done (P : NP) (t : Int) (M : NS) : Prop := ∀ b, b < pn P → M.1 3 b ≠ -1 ∨ (M.1 2 b ≠ -1 ∧ M.1 2 b + pT P b 5 < t)
theorem done_facts (I : Minv P t M) (hd : done P t M) : M.2.1 = [] ∧ M.2.2.1 = [] ∧ M.2.2.2 = pn P ∧ ∀ b, b < pn P → M.1 0 b ≠ -1 ∧ M.1 1 b ≠ -1 ∧ rE P M.1 b < t ∧ (M.1 3 b = -1 → pE P M.1 b < t) := by
  obtain ⟨i0, i1, i2, i3, i4, i5, i6, i7, i8, i8', i10, i9, i11, i12, i13⟩ := I
  have h1 : ∀ b, b < pn P → M.1 1 b ≠ -1 := fun b hb => by
    rcases hd b hb with z | z
    · rcases i4 b with y | y
      · exact absurd y z
      · exact y.1
    · rcases i3 b with y | y
      · exact absurd y z.1
      · exact y.1
  have hm : M.2.2.2 = pn P := by
    rcases Nat.lt_or_ge M.2.2.2 (pn P) with z | z
    · rcases i2 M.2.2.2 with y | y
      · exact absurd y (h1 _ z)
      · omega
    · omega
  refine ⟨List.eq_nil_iff_forall_not_mem.mpr fun b hb => ?_, List.eq_nil_iff_forall_not_mem.mpr fun b hb => ?_, hm, fun b hb => ?_⟩
  · have h := (i6 b).mp hb
    exact h1 b (by omega) h.2.2
  · have h := (i7 b).mp hb
    have hbn : b < pn P := by
      rcases i2 b with y | y
      · exact absurd y h.1
      · omega
    rcases hd b hbn with z | z
    · exact z h.2.2.2
    · exact z.1 h.2.2.1
  · have h0 := (i1 b).1 (by omega)
    rcases i2 b with y | y
    · exact absurd y (h1 b hb)
    · refine ⟨by omega, h1 b hb, by omega, fun z => ?_⟩
      rcases hd b hb with w | w
      · exact absurd z w
      · rcases i3 b with v | v
        · exact absurd v w.1
        · omega
theorem done_same (hP : PV P) (I : Minv P t M) (hd : done P t M) (ht : 0 ≤ t) : mstep P t M = M := by
  obtain ⟨f1, f2, f3, f4⟩ := done_facts I hd
  refine mstep_same ?_ ?_ (fun b hb => by rw [f2] at hb; exact absurd hb List.not_mem_nil) (fun b hb => by rw [f2] at hb; exact absurd hb List.not_mem_nil) (Or.inl f1) (Or.inl f3) I.1
  · refine List.filter_eq_nil_iff.mpr fun b hb => ?_
    intro z
    simp at z hb
    have := (f4 b hb).2.2.1
    omega
  · refine List.filter_eq_nil_iff.mpr fun b hb => ?_
    intro z
    simp at z hb
    have hT := hP.1 b hb
    rcases hd b hb with w | w
    · rcases I.2.2.2.2.1 b with v | v
      · exact w v
      · omega
    · rcases I.2.2.2.1 b with v | v
      · exact w.1 v
      · omega
/-- how much there is still to do for a batch, at most -/
def potR (P : NP) (b : Nat) : Int := pT P b 2 + pT P b 3 + pT P b 4 + 1 + pT P b 5
def pot (P : NP) (t : Int) (M : NS) (b : Nat) : Int :=
  if M.1 3 b ≠ -1 then 0 else if M.1 2 b ≠ -1 then max 0 (M.1 2 b + pT P b 5 + 1 - t) else if M.1 1 b ≠ -1 then pE P M.1 b + pT P b 4 + 1 - t + pT P b 5 else if M.1 0 b ≠ -1 then max 0 (rE P M.1 b - t) + potR P b else pT P b 0 + pT P b 1 + potR P b
theorem pot_bd (hP : PV P) (I : Minv P t M) {b : Nat} (hb : b < pn P) : 0 ≤ pot P t M b := by
  have hT := hP.1 b hb
  have i5 := I.2.2.2.2.2.1 b
  unfold pot potR
  split
  · omega
  · next q3 =>
    split
    · omega
    · next q2 =>
      split
      · next q1 =>
        have := i5 q1 (by omega) (by omega)
        omega
      · split <;> omega
theorem pot_arith {N0 N1 N2 N3 n0 n1 n2 n3 T0 T1 T2 T3 T4 T5 t : Int} {m m' b : Nat} {TK QS QO QK : Prop} (ht : 0 ≤ t) (hT : 1 ≤ T0 ∧ 0 ≤ T1 ∧ 1 ≤ T2 ∧ 0 ≤ T3 ∧ 0 ≤ T4 ∧ 1 ≤ T5)
    (hR0 : (m ≤ b ∧ b < m' ∧ n0 = t) ∨ n0 = N0) (hR1 : (TK ∧ n1 = t) ∨ (¬ TK ∧ n1 = N1)) (hR2 : (QK ∧ n2 = t) ∨ n2 = N2) (hR3 : (QO ∧ T4 < t - (N1 + T2 + T3) ∧ n3 = t) ∨ (¬ (QO ∧ T4 < t - (N1 + T2 + T3)) ∧ n3 = N3))
    (p1 : QO ↔ N1 ≠ -1 ∧ N1 + T2 + T3 ≤ t ∧ N2 = -1 ∧ N3 = -1) (q1 : QS ↔ b < m ∧ N0 + T0 + T1 ≤ t ∧ N1 = -1) (htk : TK → QS) (hk : QK ↔ QO ∧ ¬ T4 < t - (N1 + T2 + T3))
    (g1 : (b < m → 0 ≤ N0 ∧ N0 < t) ∧ (m ≤ b → N0 = -1)) (g2 : N1 = -1 ∨ (b < m ∧ N0 + T0 + T1 ≤ N1 ∧ N1 < t)) (g3 : N2 = -1 ∨ (N1 ≠ -1 ∧ N1 + T2 + T3 ≤ N2 ∧ N2 < t ∧ N3 = -1 ∧ N2 - (N1 + T2 + T3) ≤ T4)) (g5 : N1 ≠ -1 → N2 = -1 → N3 = -1 → t ≤ N1 + T2 + T3 + T4 + 1) :
    let R := T2 + T3 + T4 + 1 + T5
    let p := if N3 ≠ -1 then 0 else if N2 ≠ -1 then max 0 (N2 + T5 + 1 - t) else if N1 ≠ -1 then N1 + T2 + T3 + T4 + 1 - t + T5 else if N0 ≠ -1 then max 0 (N0 + T0 + T1 - t) + R else T0 + T1 + R
    let p' := if n3 ≠ -1 then 0 else if n2 ≠ -1 then max 0 (n2 + T5 + 1 - (t + 1)) else if n1 ≠ -1 then n1 + T2 + T3 + T4 + 1 - (t + 1) + T5 else if n0 ≠ -1 then max 0 (n0 + T0 + T1 - (t + 1)) + R else T0 + T1 + R
    p' ≤ p ∧ (N3 = -1 → (N2 ≠ -1 ∧ t ≤ N2 + T5) ∨ (N2 = -1 ∧ N1 ≠ -1) ∨ (N1 = -1 ∧ n1 ≠ -1) ∨ (N1 = -1 ∧ N0 ≠ -1 ∧ t < N0 + T0 + T1) ∨ (N0 = -1 ∧ n0 ≠ -1) → p' < p) := by
  intro R p p'
  have eR : R = T2 + T3 + T4 + 1 + T5 := rfl
  by_cases c3 : N3 = -1
  · by_cases c2 : N2 = -1
    · by_cases c1 : N1 = -1
      · have hQ : ¬ QO := fun z => (p1.mp z).1 c1
        have e3 : n3 = -1 := by rcases hR3 with h | h; exact absurd h.1 hQ; omega
        have e2 : n2 = -1 := by rcases hR2 with h | h; exact absurd (hk.mp h.1).1 hQ; omega
        by_cases z : TK
        · have y := q1.mp (htk z)
          have e1 : n1 = t := by rcases hR1 with h | h; exact h.2; exact absurd z h.1
          have ep : p = max 0 (N0 + T0 + T1 - t) + R := by
            show (if _ then _ else _) = _
            rw [if_neg (by omega), if_neg (by omega), if_neg (by omega), if_pos (by omega)]
          have ep' : p' = n1 + T2 + T3 + T4 + 1 - (t + 1) + T5 := by
            show (if _ then _ else _) = _
            rw [if_neg (by omega), if_neg (by omega), if_pos (by omega)]
          rw [ep, ep']
          exact ⟨by omega, fun _ _ => by omega⟩
        · have e1 : n1 = -1 := by rcases hR1 with h | h; exact absurd h.1 z; omega
          by_cases c0 : N0 = -1
          · have ep : p = T0 + T1 + R := by
              show (if _ then _ else _) = _
              rw [if_neg (by omega), if_neg (by omega), if_neg (by omega), if_neg (by omega)]
            by_cases w : n0 = -1
            · have ep' : p' = T0 + T1 + R := by
                show (if _ then _ else _) = _
                rw [if_neg (by omega), if_neg (by omega), if_neg (by omega), if_neg (by omega)]
              rw [ep, ep']
              exact ⟨by omega, fun _ _ => by omega⟩
            · have ep' : p' = max 0 (n0 + T0 + T1 - (t + 1)) + R := by
                show (if _ then _ else _) = _
                rw [if_neg (by omega), if_neg (by omega), if_neg (by omega), if_pos (by omega)]
              rw [ep, ep']
              exact ⟨by omega, fun _ _ => by omega⟩
          · have hb : b < m := by
              rcases Nat.lt_or_ge b m with y | y
              · exact y
              · exact absurd (g1.2 y) c0
            have e0 : n0 = N0 := by omega
            have ep : p = max 0 (N0 + T0 + T1 - t) + R := by
              show (if _ then _ else _) = _
              rw [if_neg (by omega), if_neg (by omega), if_neg (by omega), if_pos (by omega)]
            have ep' : p' = max 0 (n0 + T0 + T1 - (t + 1)) + R := by
              show (if _ then _ else _) = _
              rw [if_neg (by omega), if_neg (by omega), if_neg (by omega), if_pos (by omega)]
            rw [ep, ep']
            exact ⟨by omega, fun _ _ => by omega⟩
      · have e1 : n1 = N1 := by
          rcases hR1 with h | h
          · exact absurd (q1.mp (htk h.1)).2.2 c1
          · exact h.2
        have := g5 c1 c2 c3
        have ep : p = N1 + T2 + T3 + T4 + 1 - t + T5 := by
          show (if _ then _ else _) = _
          rw [if_neg (by omega), if_neg (by omega), if_pos (by omega)]
        by_cases c4 : n3 = -1
        · have hnl : ¬ (QO ∧ T4 < t - (N1 + T2 + T3)) := by
            rcases hR3 with h | h
            · omega
            · exact h.1
          by_cases c5 : n2 = -1
          · have ep' : p' = n1 + T2 + T3 + T4 + 1 - (t + 1) + T5 := by
              show (if _ then _ else _) = _
              rw [if_neg (by omega), if_neg (by omega), if_pos (by omega)]
            rw [ep, ep']
            exact ⟨by omega, fun _ _ => by omega⟩
          · have ep' : p' = max 0 (n2 + T5 + 1 - (t + 1)) := by
              show (if _ then _ else _) = _
              rw [if_neg (by omega), if_pos (by omega)]
            have e2 : QK ∧ n2 = t := by
              rcases hR2 with h | h
              · exact h
              · omega
            have h1 := hk.mp e2.1
            rw [ep, ep']
            exact ⟨by omega, fun _ _ => by omega⟩
        · have ep' : p' = 0 := by
            show (if _ then _ else _) = _
            rw [if_pos (by omega)]
          rw [ep, ep']
          exact ⟨by omega, fun _ _ => by omega⟩
    · have hQ : ¬ QO := fun z => c2 (p1.mp z).2.2.1
      have e3 : n3 = -1 := by rcases hR3 with h | h; exact absurd h.1 hQ; omega
      have e2 : n2 = N2 := by rcases hR2 with h | h; exact absurd (hk.mp h.1).1 hQ; omega
      have ep : p = max 0 (N2 + T5 + 1 - t) := by
        show (if _ then _ else _) = _
        rw [if_neg (by omega), if_pos (by omega)]
      have ep' : p' = max 0 (n2 + T5 + 1 - (t + 1)) := by
        show (if _ then _ else _) = _
        rw [if_neg (by omega), if_pos (by omega)]
      rw [ep, ep']
      exact ⟨by omega, fun _ _ => by omega⟩
  · have hQ : ¬ QO := fun z => c3 (p1.mp z).2.2.2
    have e3 : n3 = N3 := by rcases hR3 with h | h; exact absurd h.1 hQ; omega
    have ep : p = 0 := by
      show (if _ then _ else _) = _
      rw [if_pos (by omega)]
    have ep' : p' = 0 := by
      show (if _ then _ else _) = _
      rw [if_pos (by omega)]
    rw [ep, ep']
    exact ⟨by omega, fun h => absurd h c3⟩
/-- a minute makes it no more; and less where the batch is at work or begins to be -/
theorem pot_step (hP : PV P) (I : Minv P t M) (ht : 0 ≤ t) {b : Nat} (hb : b < pn P) : pot P (t + 1) (mstep P t M) b ≤ pot P t M b ∧
    (M.1 3 b = -1 → (M.1 2 b ≠ -1 ∧ t ≤ M.1 2 b + pT P b 5) ∨ (M.1 2 b = -1 ∧ M.1 1 b ≠ -1) ∨ (M.1 1 b = -1 ∧ (mstep P t M).1 1 b ≠ -1) ∨ (M.1 1 b = -1 ∧ M.1 0 b ≠ -1 ∧ t < rE P M.1 b) ∨ (M.1 0 b = -1 ∧ (mstep P t M).1 0 b ≠ -1) → pot P (t + 1) (mstep P t M) b < pot P t M b) := by
  have hT := hP.1 b hb
  have B := sBI hP I ht
  have hqs := queS hP I ht
  have hqo := queO hP I ht
  have hr := step_rows hP I ht
  have I' := Minv_step hP I ht
  have hk : b ∈ sQk P t M ↔ b ∈ sQo P t M ∧ ¬ pT P b 4 < t - pE P M.1 b := sQk_mem
  change (∀ b, b ∈ sQs P t M ↔ _) ∧ (sQs P t M).Pairwise (qR P) at hqs
  change (∀ b, b ∈ sQo P t M ↔ _) ∧ (sQo P t M).Pairwise (qR P) at hqo
  dsimp only at hr
  obtain ⟨r0, r1, r3, r2, r4, r5, r6, r7⟩ := hr
  have p1 := hqo.1 b
  have q1 := hqs.1 b
  obtain ⟨i0, i1, i2, i3, i4, i5, i6, i7, i8, i8', i10, i9, i11, i12, i13⟩ := I
  have g1 := i1 b
  have g2 := i2 b
  have g3 := i3 b
  have g4 := i4 b
  have g5 := i5 b
  have hm : sm P t M ≤ pn P := (mxTo_bd (P := P) (N := sN3 P t M) (t := t) i0).2
  have hR2 : (b ∈ sQk P t M ∧ (mstep P t M).1 2 b = t) ∨ ((mstep P t M).1 2 b = M.1 2 b) := by
    rw [r2]
    by_cases z : b ∈ sQk P t M
    · rcases B.2.2.1 b z with h | h
      · exact Or.inl ⟨z, h.1⟩
      · exact Or.inr (by rw [h.1]; simp [sN1])
    · exact Or.inr (by rw [(B.2.1 b z).1]; simp [sN1])
  have hR3 := r3 b
  have hR1 := r1 b
  have hR0 := r0 b
  have eR : ∀ N : Nat → Nat → Int, rE P N b = N 0 b + pT P b 0 + pT P b 1 := fun _ => rfl
  have eP : ∀ N : Nat → Nat → Int, pE P N b = N 1 b + pT P b 2 + pT P b 3 := fun _ => rfl
  have htk : b ∈ (sQs P t M).take (sK P t M) → b ∈ sQs P t M := List.mem_of_mem_take
  have key := pot_arith (N0 := M.1 0 b) (N1 := M.1 1 b) (N2 := M.1 2 b) (N3 := M.1 3 b) (n0 := (mstep P t M).1 0 b) (n1 := (mstep P t M).1 1 b) (n2 := (mstep P t M).1 2 b) (n3 := (mstep P t M).1 3 b) (T0 := pT P b 0) (T1 := pT P b 1) (T2 := pT P b 2) (T3 := pT P b 3) (T4 := pT P b 4) (T5 := pT P b 5) (t := t) (m := M.2.2.2) (m' := sm P t M) (b := b) (TK := b ∈ (sQs P t M).take (sK P t M)) (QS := b ∈ sQs P t M) (QO := b ∈ sQo P t M) (QK := b ∈ sQk P t M) ht ⟨hT.1.1, hT.2.1.1, hT.2.2.1.1, hT.2.2.2.1.1, hT.2.2.2.2.1.1, hT.2.2.2.2.2.1.1⟩
    (by
      by_cases z : M.2.2.2 ≤ b ∧ b < sm P t M
      · rw [if_pos z] at hR0
        exact Or.inl ⟨z.1, z.2, hR0⟩
      · rw [if_neg z] at hR0
        exact Or.inr hR0)
    (by
      by_cases z : b ∈ (sQs P t M).take (sK P t M)
      · rw [if_pos z] at hR1
        exact Or.inl ⟨z, hR1⟩
      · rw [if_neg z] at hR1
        exact Or.inr ⟨z, hR1⟩) hR2
    (by
      by_cases z : b ∈ sQo P t M ∧ pT P b 4 < t - pE P M.1 b
      · rw [if_pos z] at hR3
        exact Or.inl ⟨z.1, z.2, hR3⟩
      · rw [if_neg z] at hR3
        exact Or.inr ⟨z, hR3⟩) p1 q1 htk hk g1 g2 g3 g5
  exact key
theorem sumTo_pos {n : Nat} {f : Nat → Bool} (h : 1 ≤ sumTo n (fun b => if f b = true then (1 : Int) else 0)) : ∃ b, b < n ∧ f b = true := by
  induction n with
  | zero => simp [sumTo] at h
  | succ n ih =>
    rw [sumTo] at h
    by_cases q : f n = true
    · exact ⟨n, by omega, q⟩
    · rw [if_neg q] at h
      obtain ⟨b, h1, h2⟩ := ih (by omega)
      exact ⟨b, by omega, h2⟩
def Phi (P : NP) (t : Int) (M : NS) : Int := sumTo (pn P) (pot P t M)
theorem sumTo_lt {n : Nat} {f g : Nat → Int} (h : ∀ i, i < n → f i ≤ g i) {b : Nat} (hb : b < n) (hs : f b < g b) : sumTo n f < sumTo n g := by
  induction n with
  | zero => exact absurd hb (Nat.not_lt_zero _)
  | succ n ih =>
    rw [sumTo, sumTo]
    by_cases e : b = n
    · subst e
      have := sumTo_le (n := b) (f := f) (g := g) (fun i hi => h i (by omega))
      omega
    · have := ih (fun i hi => h i (by omega)) (by omega)
      have := h n (by omega)
      omega
theorem Phi_step (hP : PV P) (I : Minv P t M) (ht : 0 ≤ t) (hd : ¬ done P t M) : Phi P (t + 1) (mstep P t M) < Phi P t M := by
  have hle : ∀ b, b < pn P → pot P (t + 1) (mstep P t M) b ≤ pot P t M b := fun b hb => (pot_step hP I ht hb).1
  suffices h : ∃ b, b < pn P ∧ pot P (t + 1) (mstep P t M) b < pot P t M b by
    obtain ⟨b, hb, hs⟩ := h
    exact sumTo_lt hle hb hs
  have hps := Pst_step hP I ht
  have I' := Minv_step hP I ht
  have hr := step_rows hP I ht
  dsimp only at hr
  obtain ⟨b, hb⟩ := Classical.not_forall.mp hd
  obtain ⟨hb, hn⟩ := Classical.not_imp.mp hb
  have hn3 : M.1 3 b = -1 := Classical.byContradiction fun z => hn (Or.inl z)
  have hT := hP.1 b hb
  by_cases c2 : M.1 2 b = -1
  · by_cases c1 : M.1 1 b = -1
    · by_cases c1' : (mstep P t M).1 1 b = -1
      · -- not shaped in this minute
        by_cases c0 : M.1 0 b = -1
        · by_cases c0' : (mstep P t M).1 0 b = -1
          · -- not mixed in this minute: the mixers are at work
            have hm : (mstep P t M).2.2.2 ≠ pn P := fun z => by
              have := (I'.2.1 b).1 (by omega)
              omega
            have hmx : 1 ≤ mxN P (mstep P t M).1 t := by
              rcases hps.2.1 with z | z
              · exact absurd z hm
              · have := hP.2.2.2.2.1
                omega
            obtain ⟨c, hc, hc2⟩ := sumTo_pos hmx
            simp [mxB] at hc2
            refine ⟨c, hc, ?_⟩
            have hTc := hP.1 c hc
            have h0c : (mstep P t M).1 0 c = M.1 0 c ∨ M.1 0 c = -1 := by
              rw [hr.1 c]
              split
              · next q => exact Or.inr ((I.2.1 c).2 q.1)
              · exact Or.inl rfl
            rcases h0c with y | y
            · have eR : rE P M.1 c = M.1 0 c + pT P c 0 + pT P c 1 := rfl
              have c1c : M.1 1 c = -1 := by
                rcases I.2.2.1 c with v | v
                · exact v
                · omega
              have c3c : M.1 3 c = -1 := by
                rcases I.2.2.2.2.1 c with v | v
                · exact v
                · exact absurd c1c v.1
              exact (pot_step hP I ht hc).2 c3c (Or.inr (Or.inr (Or.inr (Or.inl ⟨c1c, by omega, by omega⟩))))
            · have c1c : M.1 1 c = -1 := by
                rcases I.2.2.1 c with v | v
                · exact v
                · have := (I.2.1 c).1 v.1
                  omega
              have c3c : M.1 3 c = -1 := by
                rcases I.2.2.2.2.1 c with v | v
                · exact v
                · exact absurd c1c v.1
              exact (pot_step hP I ht hc).2 c3c (Or.inr (Or.inr (Or.inr (Or.inr ⟨y, hc2.1.1⟩))))
          · exact ⟨b, hb, (pot_step hP I ht hb).2 hn3 (Or.inr (Or.inr (Or.inr (Or.inr ⟨c0, c0'⟩))))⟩
        · by_cases cr : t < rE P M.1 b
          · exact ⟨b, hb, (pot_step hP I ht hb).2 hn3 (Or.inr (Or.inr (Or.inr (Or.inl ⟨c1, c0, cr⟩))))⟩
          · -- it waits to be shaped: the bakers are at work
            have hbm : b < M.2.2.2 := by
              rcases Nat.lt_or_ge b M.2.2.2 with y | y
              · exact y
              · exact absurd ((I.2.1 b).2 y) c0
            have hq : b ∈ (mstep P t M).2.1 := (I'.2.2.2.2.2.2.1 b).mpr ⟨by
                rcases Nat.lt_or_ge b (mstep P t M).2.2.2 with y | y
                · exact y
                · have h1 := (I'.2.1 b).2 y
                  rw [hr.1 b, if_neg (by omega)] at h1
                  exact absurd h1 c0, by
                have e : rE P (mstep P t M).1 b = rE P M.1 b := rE_congr (by rw [hr.1 b, if_neg (by omega)])
                omega, c1'⟩
            have hsh : 1 ≤ shN P (mstep P t M).1 t := by
              rcases hps.1 with z | z
              · rw [z] at hq
                exact absurd hq List.not_mem_nil
              · have := hP.2.2.2.2.2
                omega
            obtain ⟨c, hc, hc2⟩ := sumTo_pos hsh
            simp [shB] at hc2
            refine ⟨c, hc, ?_⟩
            have hTc := hP.1 c hc
            by_cases y : M.1 1 c = -1
            · have c3c : M.1 3 c = -1 := by
                rcases I.2.2.2.2.1 c with v | v
                · exact v
                · exact absurd y v.1
              exact (pot_step hP I ht hc).2 c3c (Or.inr (Or.inr (Or.inl ⟨y, hc2.1.1⟩)))
            · have e1c : (mstep P t M).1 1 c = M.1 1 c := by
                rw [hr.2.1 c]
                split
                · next q =>
                  have := ((queS hP I ht).1 c).mp (List.mem_of_mem_take q)
                  exact absurd this.2.2 y
                · rfl
              have ep : pE P M.1 c = M.1 1 c + pT P c 2 + pT P c 3 := rfl
              have c2c : M.1 2 c = -1 := by
                rcases I.2.2.2.1 c with v | v
                · exact v
                · omega
              have c3c : M.1 3 c = -1 := by
                rcases I.2.2.2.2.1 c with v | v
                · exact v
                · omega
              exact (pot_step hP I ht hc).2 c3c (Or.inr (Or.inl ⟨c2c, y⟩))
      · exact ⟨b, hb, (pot_step hP I ht hb).2 hn3 (Or.inr (Or.inr (Or.inl ⟨c1, c1'⟩)))⟩
    · exact ⟨b, hb, (pot_step hP I ht hb).2 hn3 (Or.inr (Or.inl ⟨c2, c1⟩))⟩
  · exact ⟨b, hb, (pot_step hP I ht hb).2 hn3 (Or.inl ⟨c2, by
      rcases Int.lt_or_le (M.1 2 b + pT P b 5) t with y | y
      · exact absurd (Or.inr ⟨c2, y⟩) hn
      · exact y⟩)⟩
theorem Phi_0 (hP : PV P) : Phi P 0 (M0 P) ≤ 124000 := by
  have h := sumTo_bd (n := pn P) (f := pot P 0 (M0 P)) (lo := 0) (hi := 2041) (fun b hb => by
    have hT := hP.1 b hb
    have e : pot P 0 (M0 P) b = pT P b 0 + pT P b 1 + potR P b := rfl
    rw [e]
    unfold potR
    omega)
  have := hP.2.2.1
  unfold Phi
  omega
theorem Phi_ge (hP : PV P) (I : Minv P t M) : 0 ≤ Phi P t M := by
  have h := sumTo_le (n := pn P) (f := fun _ => 0) (g := pot P t M) (fun b hb => pot_bd hP I hb)
  rw [sumTo_zero (fun _ _ => rfl)] at h
  exact h
/-- the night ends -/
theorem ends (hP : PV P) : ∃ n : Nat, n ≤ 124001 ∧ done P (n : Int) (Mt P n) := by
  refine Classical.byContradiction fun z => ?_
  have hz : ∀ n : Nat, n ≤ 124001 → ¬ done P (n : Int) (Mt P n) := fun n hn h => z ⟨n, hn, h⟩
  have key : ∀ n : Nat, n ≤ 124001 → Phi P (n : Int) (Mt P n) ≤ 124000 - n := by
    intro n
    induction n with
    | zero =>
      intro _
      have := Phi_0 hP
      show Phi P ((0 : Nat) : Int) (M0 P) ≤ _
      simpa using this
    | succ n ih =>
      intro hn
      have h1 := ih (by omega)
      have h2 := Phi_step hP (Minv_t hP n) (by omega) (hz n (by omega))
      have e : ((n + 1 : Nat) : Int) = (n : Int) + 1 := by omega
      rw [e]
      show Phi P ((n : Int) + 1) (mstep P (n : Int) (Mt P n)) ≤ _
      omega
  have h1 := key 124001 (Nat.le_refl _)
  have h2 := Phi_ge hP (Minv_t hP 124001)
  omega
theorem done_on (hP : PV P) {n : Nat} (hd : done P (n : Int) (Mt P n)) : ∀ k, Mt P (n + k) = Mt P n ∧ done P ((n + k : Nat) : Int) (Mt P (n + k))
  | 0 => ⟨rfl, hd⟩
  | k + 1 => by
    obtain ⟨h1, h2⟩ := done_on hP hd k
    have e : Mt P (n + (k + 1)) = Mt P (n + k) := done_same hP (Minv_t hP (n + k)) h2 (by omega)
    refine ⟨e.trans h1, fun b hb => ?_⟩
    rw [e]
    rcases h2 b hb with z | z
    · exact Or.inl z
    · exact Or.inr ⟨z.1, by omega⟩
/-- the night, whole -/
def Mf (P : NP) : NS := Mt P 124001
theorem Mf_done (hP : PV P) : done P 124001 (Mf P) := by
  obtain ⟨n, hn, hd⟩ := ends hP
  have h := (done_on hP hd (124001 - n)).2
  rw [show n + (124001 - n) = 124001 by omega] at h
  exact h
theorem Mf_late (hP : PV P) {n : Nat} (hn : 124001 ≤ n) : Mt P n = Mf P := by
  have h := (done_on (n := 124001) hP (Mf_done hP) (n - 124001)).1
  rw [show 124001 + (n - 124001) = n by omega] at h
  exact h
/-- minutes without an event are left out -/
theorem idle_run (hP : PV P) {n1 : Nat} (h1 : 1 ≤ n1) : ∀ k, (∀ n, n1 ≤ n → n < n1 + k → noEv P (n : Int) (Mt P n1)) → Mt P (n1 + k) = Mt P n1
  | 0, _ => rfl
  | k + 1, h => by
    have ih := idle_run hP h1 k (fun n a b => h n a (by omega))
    have hs : Pst P (((n1 + k : Nat) : Int) - 1) (Mt P (n1 + k)) := by
      obtain ⟨q, hq⟩ : ∃ q, n1 + k = q + 1 := ⟨n1 + k - 1, by omega⟩
      rw [hq, show ((q + 1 : Nat) : Int) - 1 = (q : Int) by omega]
      exact Pst_step hP (Minv_t hP q) (by omega)
    have he := h (n1 + k) (by omega) (by omega)
    have he' : noEv P ((n1 + k : Nat) : Int) (Mt P (n1 + k)) := by
      rw [ih]
      exact he
    have e : Mt P (n1 + (k + 1)) = Mt P (n1 + k) := idle hP (Minv_t hP (n1 + k)) hs he' (by omega)
    rw [e, ih]
theorem noEv_all (hP : PV P) {n1 : Nat} (h1 : 1 ≤ n1) (h : ∀ n, n1 ≤ n → noEv P (n : Int) (Mt P n1)) : Mt P n1 = Mf P := by
  have e := idle_run hP h1 124001 (fun n a _ => h n a)
  rw [← e]
  exact Mf_late hP (by omega)
end NEND
