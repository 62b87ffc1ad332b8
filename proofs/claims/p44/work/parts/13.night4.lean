/-! the invariant goes on through a minute -/
section NGO
variable {P : NP} {t : Int} {M : NS}
theorem sBI (hP : PV P) (I : Minv P t M) (ht : 0 ≤ t) : BI P t (sN1 P t M) (sQk P t M) (sA P t M) := by
  have hq := queO hP I ht
  obtain ⟨i0, i1, i2, i3, i4, i5, i6, i7, i8, i8', i10, i9, i11, i12, i13⟩ := I
  refine bakeR_BI hP (fun o ho => by simpa [sN1] using (i9 o ho).1) ?_ (fun b hb => ?_)
  · exact hq.2.sublist List.filter_sublist
  · have hb := (hq.1 b).mp (List.mem_filter.mp hb).1
    have hbn : b < pn P := by
      rcases i2 b with z | z
      · exact absurd z hb.1
      · omega
    exact ⟨hbn, by simpa [sN1] using hb.2.2.1⟩
theorem late_iff {b : Nat} : lateB P M.1 t b = true ↔ pT P b 4 < t - pE P M.1 b := by simp [lateB]
theorem sQk_mem {b : Nat} : b ∈ sQk P t M ↔ b ∈ sQo P t M ∧ ¬ pT P b 4 < t - pE P M.1 b := by
  simp [sQk, lateB]
/-- the rows behind a minute -/
theorem step_rows (hP : PV P) (I : Minv P t M) (ht : 0 ≤ t) : let R := (mstep P t M).1
    (∀ b, R 0 b = if M.2.2.2 ≤ b ∧ b < sm P t M then t else M.1 0 b) ∧
    (∀ b, R 1 b = if b ∈ (sQs P t M).take (sK P t M) then t else M.1 1 b) ∧
    (∀ b, R 3 b = if b ∈ sQo P t M ∧ pT P b 4 < t - pE P M.1 b then t else M.1 3 b) ∧
    R 2 = (sA P t M).1 2 ∧ R 4 = (sA P t M).1 4 ∧ R 5 = (sA P t M).1 5 ∧ R 6 = (sA P t M).1 6 ∧ R 7 = (sA P t M).1 7 := by
  have B := sBI hP I ht
  have e0 : (sA P t M).1 0 = M.1 0 := by rw [B.1 0 (by decide) (by decide) (by decide) (by decide) (by decide)]; funext b; simp [sN1]
  have e1 : (sA P t M).1 1 = M.1 1 := by rw [B.1 1 (by decide) (by decide) (by decide) (by decide) (by decide)]; funext b; simp [sN1]
  have e3 : (sA P t M).1 3 = sN1 P t M 3 := B.1 3 (by decide) (by decide) (by decide) (by decide) (by decide)
  intro R
  have eR : R = mixR (sN3 P t M) t M.2.2.2 (sm P t M) := congrArg Prod.fst (mstep_eq t M)
  rw [eR]
  refine ⟨fun b => ?_, fun b => ?_, fun b => ?_, ?_, ?_, ?_, ?_, ?_⟩
  · simp [mixR, sN3, e0]
  · simp [mixR, sN3, e1]
  · simp [mixR, sN3, e3, sN1, late_iff]
  all_goals (funext b; simp [mixR, sN3])
theorem Minv_step (hP : PV P) (I : Minv P t M) (ht : 0 ≤ t) : Minv P (t + 1) (mstep P t M) := by
  have B := sBI hP I ht
  have hqs := queS hP I ht
  have hqo := queO hP I ht
  have hr := step_rows hP I ht
  have hM2 : (mstep P t M).2 = ((sQs P t M).drop (sK P t M), (sA P t M).2, sm P t M) := congrArg Prod.snd (mstep_eq t M)
  obtain ⟨i0, i1, i2, i3, i4, i5, i6, i7, i8, i8', i10, i9, i11, i12, i13⟩ := I
  obtain ⟨B1, B2, B3, B4, B5, B6, B7⟩ := B
  dsimp only at hr
  have hm := mxTo_bd (P := P) (N := sN3 P t M) (t := t) i0
  change M.2.2.2 ≤ sm P t M ∧ sm P t M ≤ pn P at hm
  change (∀ b, b ∈ sQs P t M ↔ _) ∧ (sQs P t M).Pairwise (qR P) at hqs
  change (∀ b, b ∈ sQo P t M ↔ _) ∧ (sQo P t M).Pairwise (qR P) at hqo
  generalize hR : (mstep P t M).1 = R at hr
  have eM : mstep P t M = (R, (sQs P t M).drop (sK P t M), (sA P t M).2, sm P t M) := Prod.ext hR hM2
  rw [eM]
  obtain ⟨r0, r1, r3, r2, r4, r5, r6, r7⟩ := hr
  clear hM2 hR eM
  obtain ⟨q1, q2⟩ := hqs
  obtain ⟨p1, p2⟩ := hqo
  have hk : ∀ b, b ∈ sQk P t M ↔ b ∈ sQo P t M ∧ ¬ pT P b 4 < t - pE P M.1 b := fun b => sQk_mem
  have hkS : (sQk P t M).Sublist (sQo P t M) := List.filter_sublist
  have eN2 : ∀ b, sN1 P t M 2 b = M.1 2 b := fun b => by simp [sN1]
  have eN4 : ∀ b, sN1 P t M 4 b = M.1 4 b := fun b => by simp [sN1]
  have eN5 : ∀ b, sN1 P t M 5 b = M.1 5 b := fun b => by simp [sN1]
  have eN6 : ∀ b, sN1 P t M 6 b = M.1 6 b := fun b => by simp [sN1]
  have eN7 : ∀ b, sN1 P t M 7 b = M.1 7 b := fun b => by simp [sN1]
  generalize sQs P t M = Qs at *
  generalize sQo P t M = Qo at *
  generalize sQk P t M = Qk at *
  generalize sK P t M = k at *
  generalize sm P t M = m' at *
  generalize sA P t M = A at *
  have htd : ∀ b, b ∈ Qs ↔ b ∈ Qs.take k ∨ b ∈ Qs.drop k := fun b => by
    rw [← List.mem_append, List.take_append_drop]
  have q2' : (Qs.take k ++ Qs.drop k).Pairwise (qR P) := by rw [List.take_append_drop]; exact q2
  have q3 := List.pairwise_append.mp q2'
  have htn : ∀ b, b ∈ Qs.take k → b ∉ Qs.drop k := fun b h1 h2 => (q3.2.2 b h1 b h2).1 rfl
  -- who is in a queue
  have hs1 : ∀ b, b ∈ Qs.take k → b < M.2.2.2 ∧ rE P M.1 b ≤ t ∧ M.1 1 b = -1 := fun b h => (q1 b).mp ((htd b).mpr (Or.inl h))
  have hT : ∀ b, b < M.2.2.2 → _ := fun b (h : b < M.2.2.2) => hP.1 b (by omega)
  have rEq : ∀ b, b < M.2.2.2 → rE P R b = rE P M.1 b := fun b h => rE_congr (by rw [r0, if_neg (by omega)])
  have pEq : ∀ b, M.1 1 b ≠ -1 → R 1 b = M.1 1 b ∧ pE P R b = pE P M.1 b := fun b h => by
    have : R 1 b = M.1 1 b := by rw [r1, if_neg (fun z => h (hs1 b z).2.2)]
    exact ⟨this, pE_congr this⟩
  have hbm : ∀ b, M.1 1 b ≠ -1 → b < M.2.2.2 := fun b h => by
    rcases i2 b with z | z
    · exact absurd z h
    · exact z.1
  have hQk : ∀ b, b ∈ Qk → M.1 1 b ≠ -1 ∧ pE P M.1 b ≤ t ∧ M.1 2 b = -1 ∧ M.1 3 b = -1 ∧ t - pE P M.1 b ≤ pT P b 4 := fun b h => by
    have h1 := (hk b).mp h
    have h2 := (p1 b).mp h1.1
    exact ⟨h2.1, h2.2.1, h2.2.2.1, h2.2.2.2, by omega⟩
  have hA2 : ∀ b, b ∈ A.2 → b ∈ Qk := fun b h => B4.subset h
  -- what becomes of a batch in the oven's rows
  have hR2 : ∀ b, (b ∈ Qk ∧ b ∉ A.2 ∧ R 2 b = t ∧ 0 ≤ R 4 b ∧ R 4 b < pv P) ∨ ((b ∈ Qk → b ∈ A.2) ∧ R 2 b = M.1 2 b ∧ R 4 b = M.1 4 b) := fun b => by
    rw [r2, r4]
    by_cases z : b ∈ Qk
    · rcases B3 b z with h | h
      · exact Or.inl ⟨z, h.2.2.2, h.1, h.2.1, h.2.2.1⟩
      · exact Or.inr ⟨fun _ => h.2.2, by rw [h.1, eN2], by rw [h.2.1, eN4]⟩
    · have := B2 b z
      exact Or.inr ⟨fun y => absurd y z, by rw [this.1, eN2], by rw [this.2, eN4]⟩
  refine ⟨hm.2, fun b => ?_, fun b => ?_, fun b => ?_, fun b => ?_, fun b h1 h2 h3 => ?_, fun b => ?_, fun b => ?_, q3.2.1, (p2.sublist ?_), fun b => ?_, fun o ho => ?_, fun b b' hb hb' => ?_, fun b b' hb hT' h => ?_, fun b b' hb hT' h => ?_⟩
  · dsimp only
    rw [r0]
    have := i1 b
    constructor
    · intro h
      split
      · omega
      · have := this.1 (by omega)
        omega
    · intro h
      rw [if_neg (by omega)]
      exact this.2 (by omega)
  · dsimp only
    by_cases z : b ∈ Qs.take k
    · have h := hs1 b z
      have e : R 1 b = t := by rw [r1, if_pos z]
      rw [rEq b h.1, e]
      exact Or.inr ⟨by omega, h.2.1, by omega⟩
    · have e : R 1 b = M.1 1 b := by rw [r1, if_neg z]
      rw [e]
      rcases i2 b with h | h
      · exact Or.inl h
      · rw [rEq b h.1]
        exact Or.inr ⟨by omega, h.2.1, by omega⟩
  · dsimp only
    rcases hR2 b with h | h
    · have g := hQk b h.1
      have e3 : R 3 b = -1 := by rw [r3, if_neg (by omega)]; exact g.2.2.2.1
      rw [(pEq b g.1).1, (pEq b g.1).2, h.2.2.1, e3]
      exact Or.inr ⟨g.1, g.2.1, by omega, rfl, g.2.2.2.2⟩
    · rw [h.2.1]
      by_cases c2 : M.1 2 b = -1
      · exact Or.inl c2
      rcases i3 b with z | z
      · exact Or.inl z
      · have e3 : R 3 b = -1 := by
          rw [r3, if_neg (fun y => c2 ((p1 b).mp y.1).2.2.1)]
          exact z.2.2.2.1
        rw [(pEq b z.1).1, (pEq b z.1).2, e3]
        exact Or.inr ⟨z.1, z.2.1, by omega, rfl, z.2.2.2.2⟩
  · dsimp only
    by_cases z : b ∈ Qo ∧ pT P b 4 < t - pE P M.1 b
    · have g := (p1 b).mp z.1
      have e3 : R 3 b = t := by rw [r3, if_pos z]
      have := i5 b g.1 g.2.2.1 g.2.2.2
      rw [(pEq b g.1).1, (pEq b g.1).2, e3]
      exact Or.inr ⟨g.1, by omega, by omega⟩
    · have e3 : R 3 b = M.1 3 b := by rw [r3, if_neg z]
      rw [e3]
      rcases i4 b with h | h
      · exact Or.inl h
      · rw [(pEq b h.1).1, (pEq b h.1).2]
        exact Or.inr ⟨h.1, h.2.1, by omega⟩
  · dsimp only at h1 h2 h3 ⊢
    by_cases z : b ∈ Qs.take k
    · have h := hs1 b z
      have hTb := hT b h.1
      have e : pE P R b = R 1 b + pT P b 2 + pT P b 3 := rfl
      rw [e, r1, if_pos z]
      omega
    · have e : R 1 b = M.1 1 b := by rw [r1, if_neg z]
      rw [e] at h1
      rw [(pEq b h1).2]
      have hTb := hT b (hbm b h1)
      rcases hR2 b with g | g
      · omega
      · rw [g.2.1] at h2
        by_cases y : b ∈ Qo ∧ pT P b 4 < t - pE P M.1 b
        · rw [r3, if_pos y] at h3
          omega
        · rw [r3, if_neg y] at h3
          have := i5 b h1 h2 h3
          by_cases w : pE P M.1 b ≤ t
          · have : ¬ pT P b 4 < t - pE P M.1 b := fun v => y ⟨(p1 b).mpr ⟨h1, w, h2, h3⟩, v⟩
            omega
          · omega
  · dsimp only
    constructor
    · intro h
      have g := (q1 b).mp ((htd b).mpr (Or.inr h))
      have e : R 1 b = M.1 1 b := by rw [r1, if_neg (fun z => htn b z h)]
      rw [rEq b g.1, e]
      exact ⟨by omega, by omega, g.2.2⟩
    · rintro ⟨h1, h2, h3⟩
      have hbm' : b < M.2.2.2 := by
        rcases Nat.lt_or_ge b M.2.2.2 with z | z
        · exact z
        · have e : rE P R b = R 0 b + pT P b 0 + pT P b 1 := rfl
          rw [e, r0, if_pos ⟨z, h1⟩] at h2
          have := hP.1 b (by omega)
          omega
      rw [rEq b hbm'] at h2
      have z : b ∉ Qs.take k := fun z => by rw [r1, if_pos z] at h3; omega
      rw [r1, if_neg z] at h3
      rcases (htd b).mp ((q1 b).mpr ⟨hbm', by omega, h3⟩) with y | y
      · exact absurd y z
      · exact y
  · dsimp only
    constructor
    · intro h
      have g := hQk b (hA2 b h)
      rw [(pEq b g.1).1, (pEq b g.1).2]
      rcases hR2 b with y | y
      · exact absurd h y.2.1
      · refine ⟨g.1, by omega, by rw [y.2.1]; exact g.2.2.1, ?_⟩
        rw [r3, if_neg (by omega)]
        exact g.2.2.2.1
    · rintro ⟨h1, h2, h3, h4⟩
      have z : b ∉ Qs.take k := fun z => by
        have e : pE P R b = R 1 b + pT P b 2 + pT P b 3 := rfl
        rw [e, r1, if_pos z] at h2
        have := hT b (hs1 b z).1
        omega
      have e : R 1 b = M.1 1 b := by rw [r1, if_neg z]
      rw [e] at h1
      rw [(pEq b h1).2] at h2
      rcases hR2 b with y | y
      · omega
      · rw [y.2.1] at h3
        by_cases w : b ∈ Qo ∧ pT P b 4 < t - pE P M.1 b
        · rw [r3, if_pos w] at h4
          omega
        · rw [r3, if_neg w] at h4
          have hbo := (p1 b).mpr ⟨h1, by omega, h3, h4⟩
          exact y.1 ((hk b).mpr ⟨hbo, fun v => w ⟨hbo, v⟩⟩)
  · refine B4.trans ?_
    exact hkS
  · dsimp only
    rcases hR2 b with h | h
    · rw [h.2.2.1]
      exact ⟨fun z => by omega, fun _ => h.2.2.2⟩
    · rw [h.2.1, h.2.2]
      exact i10 b
  · dsimp only
    rw [r5, r6, r7]
    have h := i9 o ho
    rcases B6 o ho with g | g
    · rw [g.1, g.2.1, g.2.2, eN5, eN6, eN7]
      exact ⟨h.1, by omega, by omega⟩
    · rw [eN6, eN7] at g
      exact ⟨by omega, by omega, by omega⟩
  · dsimp only at hb' ⊢
    rw [r0, r0]
    have h1 := (i1 b).1
    have h2 := i11 b b' hb
    by_cases z : M.2.2.2 ≤ b' ∧ b' < m'
    · rw [if_pos z]
      split
      · omega
      · have := h1 (by omega)
        omega
    · rw [if_neg z, if_neg (by omega)]
      exact h2 (by omega)
  · dsimp only at h ⊢
    by_cases z : b' ∈ Qs.take k
    · have g := hs1 b' z
      have e' : R 1 b' = t := by rw [r1, if_pos z]
      rw [e']
      by_cases y : M.1 1 b = -1
      · have hbm1 : b < M.2.2.2 := by omega
        have h0 := i11 b b' hb g.1
        have er : rE P M.1 b = M.1 0 b + pT P b 0 + pT P b 1 := rfl
        have er' : rE P M.1 b' = M.1 0 b' + pT P b' 0 + pT P b' 1 := rfl
        rw [hT'] at er
        rcases (htd b).mp ((q1 b).mpr ⟨hbm1, by omega, y⟩) with w | w
        · rw [r1, if_pos w]
          omega
        · have := (q3.2.2 b' z b w).2 hT'.symm
          omega
      · rw [(pEq b y).1]
        rcases i2 b with w | w
        · exact absurd w y
        · omega
    · have e' : R 1 b' = M.1 1 b' := by rw [r1, if_neg z]
      rw [e'] at h ⊢
      have g := i12 b b' hb hT' h
      rw [(pEq b g.1).1]
      exact g
  · dsimp only at h ⊢
    rcases hR2 b' with g | g
    · have gq := hQk b' g.1
      have w := i12 b b' hb hT' gq.1
      have ep : pE P M.1 b = M.1 1 b + pT P b 2 + pT P b 3 := rfl
      have ep' : pE P M.1 b' = M.1 1 b' + pT P b' 2 + pT P b' 3 := rfl
      rw [hT'] at ep
      rw [g.2.2.1]
      by_cases c2 : M.1 2 b = -1
      · by_cases c3 : M.1 3 b = -1
        · have hbo := (p1 b).mpr ⟨w.1, by omega, c2, c3⟩
          by_cases cl : pT P b 4 < t - pE P M.1 b
          · refine Or.inl ?_
            rw [r3, if_pos ⟨hbo, cl⟩]
            omega
          · have hbk := (hk b).mpr ⟨hbo, cl⟩
            rcases hR2 b with y | y
            · exact Or.inr (by omega)
            · have := B7 b' g.1 g.2.1 b (y.1 hbk) hT'
              omega
        · refine Or.inl ?_
          rw [r3, if_neg (fun y => c3 ((p1 b).mp y.1).2.2.2)]
          exact c3
      · rcases hR2 b with y | y
        · exact absurd (hQk b y.1).2.2.1 c2
        · rw [y.2.1]
          rcases i3 b with v | v
          · exact absurd v c2
          · exact Or.inr ⟨c2, by omega⟩
    · rw [g.2.1] at h ⊢
      rcases i13 b b' hb hT' h with w | w
      · refine Or.inl ?_
        rw [r3, if_neg (fun y => w ((p1 b).mp y.1).2.2.2)]
        exact w
      · refine Or.inr ?_
        rcases hR2 b with y | y
        · exact absurd (hQk b y.1).2.2.1 w.1
        · rw [y.2.1]
          exact w
theorem Minv_0 (hP : PV P) : Minv P 0 (M0 P) := by
  refine ⟨Nat.zero_le _, fun b => ⟨fun h => absurd h (Nat.not_lt_zero _), fun _ => rfl⟩, fun b => Or.inl rfl, fun b => Or.inl rfl, fun b => Or.inl rfl, fun b h => absurd rfl h, fun b => ?_, fun b => ?_, List.Pairwise.nil, List.Pairwise.nil, fun b => ⟨fun _ => rfl, fun h => absurd rfl h⟩, fun o ho => ?_, fun b b' _ h => absurd h (Nat.not_lt_zero _), fun b b' _ _ h => absurd rfl h, fun b b' _ _ h => absurd rfl h⟩
  · exact ⟨fun h => absurd h List.not_mem_nil, fun h => absurd h.1 (Nat.not_lt_zero _)⟩
  · exact ⟨fun h => absurd h List.not_mem_nil, fun h => absurd rfl h.1⟩
  · have := hP.2.1 o ho
    simp [M0]
    omega
theorem Minv_t (hP : PV P) : ∀ n : Nat, Minv P (n : Int) (Mt P n)
  | 0 => Minv_0 hP
  | n + 1 => by
    have := Minv_step hP (Minv_t hP n) (by omega)
    rw [show ((n + 1 : Nat) : Int) = (n : Int) + 1 by omega]
    exact this
/-- nothing is left to do behind minute u -/
def Pst (P : NP) (u : Int) (M : NS) : Prop :=
  (M.2.1 = [] ∨ pk P ≤ shN P M.1 u) ∧ (M.2.2.2 = pn P ∨ pm P ≤ mxN P M.1 u) ∧ (∀ b, b ∈ M.2.2.1 → freeI P M.1 (pT P b 6) u = pv P ∧ stuck P M.1 (pT P b 6) u)
theorem sumTo_upd {n : Nat} {f g : Nat → Int} {b : Nat} (hb : b < n) (h : ∀ i, i ≠ b → g i = f i) : sumTo n g = sumTo n f + (g b - f b) := by
  induction n with
  | zero => omega
  | succ n ih =>
    rw [sumTo, sumTo]
    by_cases e : b = n
    · subst e
      rw [sumTo_congr (f := g) (g := f) (fun i hi => h i (by omega))]
      omega
    · rw [ih (by omega), h n (fun z => e z.symm)]
      omega
/-- as many more of a list as it is long -/
theorem sumTo_list {n : Nat} : ∀ (Q : List Nat) (c : Nat → Bool), Q.Pairwise (· ≠ ·) → (∀ b, b ∈ Q → b < n ∧ c b = false) → sumTo n (fun b => if (decide (b ∈ Q) || c b) = true then (1 : Int) else 0) = sumTo n (fun b => if c b = true then (1 : Int) else 0) + Q.length := by
  intro Q
  induction Q with
  | nil => intro c _ _; simp
  | cons q Q ih =>
    intro c hp hc
    have hp' := List.pairwise_cons.mp hp
    rw [sumTo_upd (b := q) (f := fun b => if (decide (b ∈ Q) || c b) = true then (1 : Int) else 0) (hc q (by simp)).1 (fun i hi => by simp [hi]), ih c hp'.2 (fun b hb => hc b (by simp [hb]))]
    have hq : q ∉ Q := fun z => hp'.1 q z rfl
    simp [hq, (hc q (by simp)).2]
    omega
theorem Pst_step (hP : PV P) (I : Minv P t M) (ht : 0 ≤ t) : Pst P t (mstep P t M) := by
  have B := sBI hP I ht
  have hqs := queS hP I ht
  have hr := step_rows hP I ht
  have hM2 : (mstep P t M).2 = ((sQs P t M).drop (sK P t M), (sA P t M).2, sm P t M) := congrArg Prod.snd (mstep_eq t M)
  have hm := mxTo_bd (P := P) (N := sN3 P t M) (t := t) I.1
  dsimp only at hr
  obtain ⟨r0, r1, r3, r2, r4, r5, r6, r7⟩ := hr
  have i1 := I.2.1
  have i2 := I.2.2.1
  have i0 := I.1
  have e1 : (sA P t M).1 1 = M.1 1 := by rw [B.1 1 (by decide) (by decide) (by decide) (by decide) (by decide)]; funext b; simp [sN1]
  have e0 : (sN3 P t M) 0 = M.1 0 := by
    funext b
    simp only [sN3]
    rw [if_neg (by omega), B.1 0 (by decide) (by decide) (by decide) (by decide) (by decide)]
    simp [sN1]
  rw [Pst, hM2]
  refine ⟨?_, ?_, fun b hb => ?_⟩
  · dsimp only
    by_cases hk : (sQs P t M).length ≤ sK P t M
    · exact Or.inl (List.drop_eq_nil_of_le hk)
    · refine Or.inr ?_
      have hq2 : (sQs P t M).Pairwise (qR P) := hqs.2
      have hq1 : ∀ b, b ∈ sQs P t M ↔ _ := hqs.1
      have hc := sumTo_list (n := pn P) ((sQs P t M).take (sK P t M)) (shB P (sA P t M).1 t) ((hq2.sublist (List.take_sublist _ _)).imp (fun h => h.1)) (fun b hb => by
        have h := (hq1 b).mp (List.mem_of_mem_take hb)
        exact ⟨by omega, by simp [shB, e1, h.2.2]⟩)
      have e : shN P (mstep P t M).1 t = sumTo (pn P) (fun b => if (decide (b ∈ (sQs P t M).take (sK P t M)) || shB P (sA P t M).1 t b) = true then (1 : Int) else 0) := by
        unfold shN
        refine sumTo_congr fun b hb => ?_
        have hT := (hP.1 b hb).2.2.1
        by_cases z : b ∈ (sQs P t M).take (sK P t M)
        · have : shB P (mstep P t M).1 t b = true := by simp [shB, r1, z]; omega
          simp [this, z]
        · have : shB P (mstep P t M).1 t b = shB P (sA P t M).1 t b := by simp [shB, r1, z, e1]
          simp [this, z]
      rw [e, hc, List.length_take]
      have : sK P t M = shCnt P (sA P t M).1 t (sQs P t M).length := rfl
      unfold shCnt at this
      have hs : shN P (sA P t M).1 t = sumTo (pn P) (fun b => if shB P (sA P t M).1 t b = true then (1 : Int) else 0) := rfl
      rw [← hs]
      have := hP.2.2.2.2.2
      omega
  · dsimp only
    by_cases hk : sm P t M = pn P
    · exact Or.inl hk
    · refine Or.inr ?_
      have hsm : sm P t M = mxTo P (sN3 P t M) t M.2.2.2 := rfl
      have hm' : M.2.2.2 ≤ sm P t M ∧ sm P t M ≤ pn P := hm
      have hc := sumTo_list (n := pn P) ((List.range (sm P t M)).drop M.2.2.2) (mxB P M.1 t) (((range_sorted _).sublist (List.drop_sublist _ _)).imp (fun h => by omega)) (fun b hb => by
        obtain ⟨i, hi, rfl⟩ := List.mem_iff_getElem.mp hb
        simp at hi
        simp [mxB, (i1 (M.2.2.2 + i)).2 (by omega)]
        omega)
      have e : mxN P (mstep P t M).1 t = sumTo (pn P) (fun b => if (decide (b ∈ (List.range (sm P t M)).drop M.2.2.2) || mxB P M.1 t b) = true then (1 : Int) else 0) := by
        unfold mxN
        refine sumTo_congr fun b hb => ?_
        have hT := (hP.1 b hb).1
        have hmem : b ∈ (List.range (sm P t M)).drop M.2.2.2 ↔ (M.2.2.2 ≤ b ∧ b < sm P t M) := by
          constructor
          · intro h
            obtain ⟨i, hi, rfl⟩ := List.mem_iff_getElem.mp h
            simp at hi ⊢
            omega
          · intro h
            refine List.mem_iff_getElem.mpr ⟨b - M.2.2.2, by simp; omega, by simp; omega⟩
        by_cases z : M.2.2.2 ≤ b ∧ b < sm P t M
        · have : mxB P (mstep P t M).1 t b = true := by simp [mxB, r0, z]; omega
          simp [this, hmem, z]
        · have : mxB P (mstep P t M).1 t b = mxB P M.1 t b := by simp [mxB, r0, z]
          simp [this, hmem, z]
      have hs : mxN P (sN3 P t M) t = mxN P M.1 t := by
        unfold mxN mxB
        rw [e0]
      have hs' : mxN P M.1 t = sumTo (pn P) (fun b => if mxB P M.1 t b = true then (1 : Int) else 0) := rfl
      rw [e, hc, ← hs', List.length_drop, List.length_range]
      unfold mxTo at hsm
      rw [hs] at hsm
      have := hP.2.2.2.2.1
      omega
  · dsimp only at hb
    have h := B.2.2.2.2.1 b hb
    have eu : ∀ o, used P (mstep P t M).1 o t = used P (sA P t M).1 o t := fun o => used_congr r2 r4
    have ef : freeI P (mstep P t M).1 (pT P b 6) t = freeI P (sA P t M).1 (pT P b 6) t := firstTo_congr fun o _ => by simp [isFree, r5, r6, eu]
    rw [ef]
    refine ⟨h.1, ?_⟩
    rcases h.2 with g | g
    · refine Or.inl ?_
      have : chgI P (mstep P t M).1 (pT P b 6) t = chgI P (sA P t M).1 (pT P b 6) t := firstTo_congr fun o _ => by simp [isChg, r5, r6]
      rw [this]
      exact g
    · refine Or.inr fun o ho => ?_
      have : canCh P (mstep P t M).1 t o = canCh P (sA P t M).1 t o := by simp [canCh, r6, eu]
      rw [this]
      exact g o ho
end NGO
