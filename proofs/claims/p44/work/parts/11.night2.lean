/-! the steps of a minute, one by one -/
theorem xput_at' {σ : xS} {k j : Nat} {v : Int} {a i : Nat} : xput σ k j v a i = if a = k ∧ i = j then v else σ a i := rfl
section NSTEP
variable {P : NP}
theorem rE_congr {N N' : Nat → Nat → Int} {b : Nat} (h : N' 0 b = N 0 b) : rE P N' b = rE P N b := by unfold rE; rw [h]
theorem pE_congr {N N' : Nat → Nat → Int} {b : Nat} (h : N' 1 b = N 1 b) : pE P N' b = pE P N b := by unfold pE; rw [h]
def lateB (P : NP) (N : Nat → Nat → Int) (t : Int) (b : Nat) : Bool := decide (pT P b 4 < t - pE P N b)
theorem spoil_eq (t : Int) (N : Nat → Nat → Int) : ∀ (Q : List Nat) (A : NK), A.1 1 = N 1 → Q.foldl (spoilS P t) A = ((fun r b => if r = 3 ∧ b ∈ Q ∧ lateB P N t b = true then t else A.1 r b), A.2 ++ Q.filter (fun b => !lateB P N t b)) := by
  intro Q
  induction Q with
  | nil =>
    intro A _
    simp
  | cons c Q ih =>
    intro A hA
    have e : pE P A.1 c = pE P N c := pE_congr (by rw [hA])
    rw [List.foldl_cons]
    by_cases q : lateB P N t c = true
    · have q' : pT P c 4 < t - pE P A.1 c := by rw [e]; simpa [lateB] using q
      have hs : spoilS P t A c = (xput A.1 3 c t, A.2) := if_pos q'
      rw [hs, ih _ (by funext i; simp [xput, hA])]
      refine Prod.ext ?_ ?_
      · funext r b
        dsimp only
        simp only [xput_at', List.mem_cons]
        by_cases h3 : r = 3
        · subst h3
          by_cases hb : b = c
          · subst hb
            simp [q]
          · simp [hb]
        · simp [h3]
      · simp [q]
    · have q' : ¬ pT P c 4 < t - pE P A.1 c := by rw [e]; simpa [lateB] using q
      have hs : spoilS P t A c = (A.1, A.2 ++ [c]) := if_neg q'
      rw [hs, ih (A.1, A.2 ++ [c]) hA]
      refine Prod.ext ?_ ?_
      · funext r b
        dsimp only
        simp only [List.mem_cons]
        by_cases hb : b = c
        · subst hb
          simp [q]
        · simp [hb]
      · simp [q]
theorem spoilR_eq (t : Int) (N : Nat → Nat → Int) (Q : List Nat) : spoilR P t N Q = ((fun r b => if r = 3 ∧ b ∈ Q ∧ lateB P N t b = true then t else N r b), Q.filter (fun b => !lateB P N t b)) := by
  unfold spoilR
  rw [spoil_eq t N Q (N, []) rfl, List.nil_append]
theorem shapeR_eq (t : Int) : ∀ (Q : List Nat) (N : Nat → Nat → Int), shapeR t N Q = fun r b => if r = 1 ∧ b ∈ Q then t else N r b := by
  intro Q
  induction Q with
  | nil => intro N; simp [shapeR]
  | cons c Q ih =>
    intro N
    show shapeR t (shapeS t N c) Q = _
    rw [ih]
    funext r b
    simp only [shapeS, xput_at', List.mem_cons]
    by_cases h1 : r = 1
    · subst h1
      by_cases hb : b = c
      · subst hb
        simp
      · simp [hb]
    · simp [h1]
theorem bestO_none {N : Nat → Nat → Int} {h t : Int} : ∀ {n : Nat}, bestO P N h t n = none ↔ ∀ o, o < n → canCh P N t o = false := by
  intro n
  induction n with
  | zero => exact ⟨fun _ o ho => absurd ho (Nat.not_lt_zero _), fun _ => rfl⟩
  | succ n ih =>
    rw [bestO]
    by_cases q : canCh P N t n = true
    · rw [if_pos q]
      constructor
      · intro z
        cases e : bestO P N h t n with
        | none => rw [e] at z; cases z
        | some c =>
          rw [e] at z
          dsimp only at z
          split at z <;> cases z
      · intro z
        rw [z n (by omega)] at q
        cases q
    · rw [if_neg q, ih]
      constructor
      · intro z o ho
        by_cases e : o = n
        · subst e
          exact Bool.not_eq_true _ ▸ q
        · exact z o (by omega)
      · intro z o ho
        exact z o (by omega)
theorem bestO_some {N : Nat → Nat → Int} {h t : Int} : ∀ {n c : Nat}, bestO P N h t n = some c → c < n ∧ canCh P N t c = true := by
  intro n
  induction n with
  | zero => intro c z; cases z
  | succ n ih =>
    intro c z
    rw [bestO] at z
    by_cases q : canCh P N t n = true
    · rw [if_pos q] at z
      cases e : bestO P N h t n with
      | none =>
        rw [e] at z
        cases z
        exact ⟨by omega, q⟩
      | some d =>
        rw [e] at z
        dsimp only at z
        split at z
        · cases z
          exact ⟨by omega, q⟩
        · cases z
          have := ih e
          exact ⟨by omega, this.2⟩
    · rw [if_neg q] at z
      have := ih z
      exact ⟨by omega, this.2⟩
def stuck (P : NP) (N : Nat → Nat → Int) (h t : Int) : Prop := chgI P N h t < pv P ∨ ∀ o, o < pv P → canCh P N t o = false
theorem used_bd (hn : pn P ≤ 60) (N : Nat → Nat → Int) (o : Nat) (t : Int) : 0 ≤ used P N o t ∧ used P N o t ≤ 60 := by
  have h := sumTo_bd (n := pn P) (f := fun b => if usedB P N o t b = true then (1 : Int) else 0) (lo := 0) (hi := 1) (fun i _ => by split <;> omega)
  unfold used
  omega
theorem used_congr {N N' : Nat → Nat → Int} {o : Nat} {t : Int} (h2 : N' 2 = N 2) (h4 : N' 4 = N 4) : used P N' o t = used P N o t := by
  unfold used usedB
  rw [h2, h4]
/-- a batch goes on a shelf: more are used, no fewer -/
theorem used_mono {N : Nat → Nat → Int} {b o' : Nat} {t v : Int} (hb : N 2 b = -1) (o : Nat) : used P N o t ≤ used P (xput (xput N 2 b v) 4 b (o' : Int)) o t := by
  unfold used
  refine sumTo_le fun i _ => ?_
  by_cases e : i = b
  · subst e
    have : usedB P N o t i = false := by simp [usedB, hb]
    rw [this]
    simp
    split <;> omega
  · have : usedB P (xput (xput N 2 b v) 4 b (o' : Int)) o t i = usedB P N o t i := by simp [usedB, xput_at', e]
    rw [this]
    exact Int.le_refl _
theorem canCh_iff {N : Nat → Nat → Int} {t : Int} {o : Nat} : canCh P N t o = true ↔ N 6 o ≤ t ∧ pO P o 3 = 0 ∧ used P N o t = 0 := by
  simp [canCh, and_assoc]
theorem isFree_iff {N : Nat → Nat → Int} {h t : Int} {o : Nat} : isFree P N h t o = true ↔ pO P o 3 = 0 ∧ N 6 o ≤ t ∧ N 5 o = h ∧ used P N o t < pO P o 0 := by
  simp [isFree, and_assoc]
theorem isChg_iff {N : Nat → Nat → Int} {h t : Int} {o : Nat} : isChg N h t o = true ↔ t < N 6 o ∧ N 5 o = h := by
  simp [isChg]
theorem bfalse {x : Bool} (h : ¬ x = true) : x = false := Bool.not_eq_true _ ▸ h
theorem need_bd {N : Nat → Nat → Int} {h : Int} {o : Nat} (hr : 1 ≤ pO P o 2 ∧ pO P o 2 ≤ 50) (h5 : 20 ≤ N 5 o ∧ N 5 o ≤ 300) (hh : 100 ≤ h ∧ h ≤ 300) : 0 ≤ need P N h o ∧ need P N h o ≤ 280 ∧ (N 5 o ≠ h → 1 ≤ need P N h o) := by
  have h1 := upD_le (a := ((N 5 o - h).natAbs : Int)) (y := pO P o 2) (by omega) (by omega)
  have h2 := upD_spec (a := ((N 5 o - h).natAbs : Int)) (y := pO P o 2) (by omega) (by omega)
  refine ⟨h1.1, by unfold need; omega, fun q => ?_⟩
  unfold need
  rcases Int.lt_or_le 0 (upD ((N 5 o - h).natAbs : Int) (pO P o 2)) with z | z
  · exact z
  · have : upD ((N 5 o - h).natAbs : Int) (pO P o 2) = 0 := by omega
    rw [this] at h2
    omega
/-- what the rounds of baking keep -/
theorem bake_mono (t : Int) (hP : PV P) {A : NK} {b : Nat} (hb2 : A.1 2 b = -1) (hbn : b < pn P) (h5 : ∀ o, o < pv P → 20 ≤ A.1 5 o ∧ A.1 5 o ≤ 300) :
    (∀ h, freeI P A.1 h t = pv P → freeI P (bakeS P t A b).1 h t = pv P) ∧ (∀ h, stuck P A.1 h t → stuck P (bakeS P t A b).1 h t) := by
  unfold bakeS
  split
  · next q =>
    dsimp only
    generalize freeI P A.1 (pT P b 6) t = o' at q ⊢
    refine ⟨fun h hf => ?_, fun h hs => ?_⟩
    · refine firstTo_none.mpr fun o ho => bfalse fun z => ?_
      have hz := isFree_iff.mp z
      have := firstTo_none.mp hf o ho
      have hm := used_mono (P := P) (N := A.1) (b := b) (o' := o') (t := t) (v := t) hb2 o
      have : isFree P A.1 h t o = true := isFree_iff.mpr ⟨hz.1, by simpa [xput_at'] using hz.2.1, by simpa [xput_at'] using hz.2.2.1, by omega⟩
      rw [firstTo_none.mp hf o ho] at this
      cases this
    · rcases hs with hs | hs
      · refine Or.inl ?_
        have : chgI P (xput (xput A.1 2 b t) 4 b (o' : Int)) h t = chgI P A.1 h t := firstTo_congr fun i _ => by simp [isChg, xput_at']
        rw [this]
        exact hs
      · refine Or.inr fun o ho => bfalse fun z => ?_
        have hz := canCh_iff.mp z
        have hm := used_mono (P := P) (N := A.1) (b := b) (o' := o') (t := t) (v := t) hb2 o
        have h0 := (used_bd hP.2.2.1 A.1 o t).1
        have : canCh P A.1 t o = true := canCh_iff.mpr ⟨by simpa [xput_at'] using hz.1, hz.2.1, by omega⟩
        rw [hs o ho] at this
        cases this
  · next q =>
    dsimp only
    unfold changeO
    split
    · exact ⟨fun h hf => hf, fun h hs => hs⟩
    · next q2 =>
      cases e : bestO P A.1 (pT P b 6) t (pv P) with
      | none => exact ⟨fun h hf => hf, fun h hs => hs⟩
      | some c =>
        dsimp only
        have hc := bestO_some e
        have hcc := canCh_iff.mp hc.2
        have hO := hP.2.1 c hc.1
        have hT := (hP.1 b hbn).2.2.2.2.2.2
        have hnf : freeI P A.1 (pT P b 6) t = pv P := by
          have := firstTo_le (isFree P A.1 (pT P b 6) t) (pv P)
          unfold freeI at q ⊢
          omega
        have hne : A.1 5 c ≠ pT P b 6 := fun z => by
          have : isFree P A.1 (pT P b 6) t c = true := isFree_iff.mpr ⟨hcc.2.1, hcc.1, z, by omega⟩
          rw [firstTo_none.mp hnf c hc.1] at this
          cases this
        have hnd := need_bd (N := A.1) (h := pT P b 6) hO.2.2.1 (h5 c hc.1) hT
        have hn1 := hnd.2.2 hne
        have e2 : (setCh P A.1 (pT P b 6) t c) 2 = A.1 2 := by funext i; simp [setCh, xput_at']
        have e4 : (setCh P A.1 (pT P b 6) t c) 4 = A.1 4 := by funext i; simp [setCh, xput_at']
        have e6 : ∀ o, (setCh P A.1 (pT P b 6) t c) 6 o = if o = c then t + need P A.1 (pT P b 6) c else A.1 6 o := fun o => by simp [setCh, xput_at']
        have e5 : ∀ o, (setCh P A.1 (pT P b 6) t c) 5 o = if o = c then pT P b 6 else A.1 5 o := fun o => by simp [setCh, xput_at']
        refine ⟨fun h hf => ?_, fun h hs => ?_⟩
        · refine firstTo_none.mpr fun o ho => bfalse fun z => ?_
          have hz := isFree_iff.mp z
          rw [e6, e5, used_congr e2 e4] at hz
          by_cases eo : o = c
          · rw [if_pos eo] at hz
            omega
          · rw [if_neg eo, if_neg eo] at hz
            have : isFree P A.1 h t o = true := isFree_iff.mpr hz
            rw [firstTo_none.mp hf o ho] at this
            cases this
        · rcases hs with hs | hs
          · refine Or.inl ?_
            have h1 := firstTo_at _ _ hs
            have h1 := isChg_iff.mp h1
            rcases Nat.lt_or_ge (chgI P (setCh P A.1 (pT P b 6) t c) h t) (pv P) with z | z
            · exact z
            · have hl := firstTo_le (isChg (setCh P A.1 (pT P b 6) t c) h t) (pv P)
              have hz : firstTo (isChg (setCh P A.1 (pT P b 6) t c) h t) (pv P) = pv P := Nat.le_antisymm hl z
              have h2 := firstTo_none.mp hz _ hs
              have h3 : isChg (setCh P A.1 (pT P b 6) t c) h t (firstTo (isChg A.1 h t) (pv P)) = true := by
                refine isChg_iff.mpr ?_
                rw [e6, e5]
                have : firstTo (isChg A.1 h t) (pv P) ≠ c := fun z => by rw [z] at h1; omega
                rw [if_neg this, if_neg this]
                exact h1
              have h2' : isChg (setCh P A.1 (pT P b 6) t c) h t (firstTo (isChg A.1 h t) (pv P)) = false := h2
              rw [h3] at h2'
              cases h2'
          · rw [hs c hc.1] at hc
            exact absurd hc.2 (by decide)
/-- the own treatment of a batch that stays: nothing is left to do for it -/
theorem bake_stuck (t : Int) (hP : PV P) {A : NK} {b : Nat} (hbn : b < pn P) (h5 : ∀ o, o < pv P → 20 ≤ A.1 5 o ∧ A.1 5 o ≤ 300) (hf : freeI P A.1 (pT P b 6) t = pv P) : stuck P (changeO P A.1 (pT P b 6) t) (pT P b 6) t := by
  unfold changeO
  split
  · next q => exact Or.inl q
  · next q =>
    cases e : bestO P A.1 (pT P b 6) t (pv P) with
    | none => exact Or.inr (bestO_none.mp e)
    | some c =>
      dsimp only
      have hc := bestO_some e
      have hcc := canCh_iff.mp hc.2
      have hO := hP.2.1 c hc.1
      have hT := (hP.1 b hbn).2.2.2.2.2.2
      have hne : A.1 5 c ≠ pT P b 6 := fun z => by
        have : isFree P A.1 (pT P b 6) t c = true := isFree_iff.mpr ⟨hcc.2.1, hcc.1, z, by omega⟩
        rw [firstTo_none.mp hf c hc.1] at this
        cases this
      have hnd := need_bd (N := A.1) (h := pT P b 6) hO.2.2.1 (h5 c hc.1) hT
      have hn1 := hnd.2.2 hne
      refine Or.inl ?_
      rcases Nat.lt_or_ge (chgI P (setCh P A.1 (pT P b 6) t c) (pT P b 6) t) (pv P) with z | z
      · exact z
      · have hl := firstTo_le (isChg (setCh P A.1 (pT P b 6) t c) (pT P b 6) t) (pv P)
        have h2 := firstTo_none.mp (Nat.le_antisymm hl z) c hc.1
        have h3 : isChg (setCh P A.1 (pT P b 6) t c) (pT P b 6) t c = true := isChg_iff.mpr (by simp [setCh, xput_at']; omega)
        rw [h3] at h2
        cases h2
end NSTEP
