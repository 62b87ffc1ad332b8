/-! the round of baking; the invariant of the night, step by step -/
section NINV
variable {P : NP}
def BI (P : NP) (t : Int) (N : Nat → Nat → Int) (done : List Nat) (A : NK) : Prop :=
  (∀ r, r ≠ 2 → r ≠ 4 → r ≠ 5 → r ≠ 6 → r ≠ 7 → A.1 r = N r) ∧
  (∀ b, b ∉ done → A.1 2 b = N 2 b ∧ A.1 4 b = N 4 b) ∧
  (∀ b, b ∈ done → (A.1 2 b = t ∧ 0 ≤ A.1 4 b ∧ A.1 4 b < pv P ∧ b ∉ A.2) ∨ (A.1 2 b = N 2 b ∧ A.1 4 b = N 4 b ∧ b ∈ A.2)) ∧
  A.2.Sublist done ∧
  (∀ c, c ∈ A.2 → freeI P A.1 (pT P c 6) t = pv P ∧ stuck P A.1 (pT P c 6) t) ∧
  (∀ o, o < pv P → (A.1 5 o = N 5 o ∧ A.1 6 o = N 6 o ∧ A.1 7 o = N 7 o) ∨ (N 6 o ≤ t ∧ t < A.1 6 o ∧ A.1 6 o ≤ t + 280 ∧ 100 ≤ A.1 5 o ∧ A.1 5 o ≤ 300 ∧ A.1 7 o = N 7 o + (A.1 6 o - t))) ∧
  (∀ b', b' ∈ done → b' ∉ A.2 → ∀ c, c ∈ A.2 → pT P c = pT P b' → b' < c)
theorem BI_step {t : Int} (hP : PV P) {N : Nat → Nat → Int} (h5 : ∀ o, o < pv P → 20 ≤ N 5 o ∧ N 5 o ≤ 300) {done : List Nat} {A : NK} (I : BI P t N done A) {b : Nat} (hbd : b ∉ done) (hbn : b < pn P) (hb2 : N 2 b = -1) (hq : ∀ c, c ∈ done → qR P c b) : BI P t N (done ++ [b]) (bakeS P t A b) := by
  obtain ⟨I1, I2, I3, I4, I5, I6, I7⟩ := I
  have hA5 : ∀ o, o < pv P → 20 ≤ A.1 5 o ∧ A.1 5 o ≤ 300 := fun o ho => by
    have := h5 o ho
    rcases I6 o ho with h | h
    · rw [h.1]; exact this
    · omega
  have hA2 : A.1 2 b = -1 := by rw [(I2 b hbd).1]; exact hb2
  have hbA : b ∉ A.2 := fun h => hbd (I4.subset h)
  have hmono := bake_mono t hP (A := A) (b := b) hA2 hbn hA5
  by_cases q : freeI P A.1 (pT P b 6) t < pv P
  · have e : bakeS P t A b = (xput (xput A.1 2 b t) 4 b (freeI P A.1 (pT P b 6) t : Nat), A.2) := if_pos q
    rw [e] at hmono ⊢
    refine ⟨fun r r2 r4 r5 r6 r7 => ?_, fun c hc => ?_, fun c hc => ?_, I4.trans (List.sublist_append_left _ _), fun c hc => ?_, fun o ho => ?_, fun b' hb' hn c hc hT => ?_⟩
    · rw [← I1 r r2 r4 r5 r6 r7]
      funext i
      simp [xput_at', r2, r4]
    · have hcb : c ≠ b := fun z => hc (by rw [z]; simp)
      have := I2 c (fun z => hc (List.mem_append_left _ z))
      simpa [xput_at', hcb] using this
    · by_cases hcb : c = b
      · subst hcb
        refine Or.inl ⟨by simp [xput_at'], by simp [xput_at'], by simp [xput_at']; omega, hbA⟩
      · have hcd : c ∈ done := by
          rcases List.mem_append.mp hc with z | z
          · exact z
          · exact absurd (List.mem_singleton.mp z) hcb
        simpa [xput_at', hcb] using I3 c hcd
    · exact ⟨hmono.1 _ (I5 c hc).1, hmono.2 _ (I5 c hc).2⟩
    · simpa [xput_at'] using I6 o ho
    · rcases List.mem_append.mp hb' with z | z
      · exact I7 b' z hn c hc hT
      · have z := List.mem_singleton.mp z
        subst z
        have := (I5 c hc).1
        rw [hT] at this
        omega
  · have e : bakeS P t A b = (changeO P A.1 (pT P b 6) t, A.2 ++ [b]) := if_neg q
    have hf : freeI P A.1 (pT P b 6) t = pv P := by
      have := firstTo_le (isFree P A.1 (pT P b 6) t) (pv P)
      unfold freeI at q ⊢
      omega
    have hst := bake_stuck t hP (A := A) hbn hA5 hf
    rw [e] at hmono ⊢
    have hrow : ∀ r, r ≠ 5 → r ≠ 6 → r ≠ 7 → changeO P A.1 (pT P b 6) t r = A.1 r := fun r r5 r6 r7 => by
      unfold changeO
      split
      · rfl
      · cases eb : bestO P A.1 (pT P b 6) t (pv P) with
        | none => rfl
        | some c =>
          funext i
          simp [setCh, xput_at', r5, r6, r7]
    refine ⟨fun r r2 r4 r5 r6 r7 => ?_, fun c hc => ?_, fun c hc => ?_, I4.append (List.Sublist.refl [b]), fun c hc => ?_, fun o ho => ?_, fun b' hb' hn c hc hT => ?_⟩
    · rw [← I1 r r2 r4 r5 r6 r7]
      exact hrow r r5 r6 r7
    · dsimp only
      rw [hrow 2 (by decide) (by decide) (by decide), hrow 4 (by decide) (by decide) (by decide)]
      exact I2 c (fun z => hc (List.mem_append_left _ z))
    · dsimp only
      rw [hrow 2 (by decide) (by decide) (by decide), hrow 4 (by decide) (by decide) (by decide)]
      rcases List.mem_append.mp hc with z | z
      · rcases I3 c z with h | h
        · refine Or.inl ⟨h.1, h.2.1, h.2.2.1, fun y => ?_⟩
          rcases List.mem_append.mp y with y | y
          · exact h.2.2.2 y
          · have y := List.mem_singleton.mp y
            subst y
            exact hbd z
        · exact Or.inr ⟨h.1, h.2.1, List.mem_append_left _ h.2.2⟩
      · have z := List.mem_singleton.mp z
        subst z
        exact Or.inr ⟨(I2 c hbd).1, (I2 c hbd).2, by simp⟩
    · rcases List.mem_append.mp hc with z | z
      · exact ⟨hmono.1 _ (I5 c z).1, hmono.2 _ (I5 c z).2⟩
      · have z := List.mem_singleton.mp z
        subst z
        exact ⟨hmono.1 _ hf, hst⟩
    · show (changeO P A.1 (pT P b 6) t 5 o = _ ∧ _) ∨ _
      dsimp only
      unfold changeO
      split
      · exact I6 o ho
      · cases eb : bestO P A.1 (pT P b 6) t (pv P) with
        | none => exact I6 o ho
        | some c =>
          dsimp only
          by_cases hoc : o = c
          · subst hoc
            have hc := bestO_some eb
            have hcc := canCh_iff.mp hc.2
            have hO := hP.2.1 o hc.1
            have hT := (hP.1 b hbn).2.2.2.2.2.2
            have hne : A.1 5 o ≠ pT P b 6 := fun z => by
              have : isFree P A.1 (pT P b 6) t o = true := isFree_iff.mpr ⟨hcc.2.1, hcc.1, z, by omega⟩
              rw [firstTo_none.mp hf o hc.1] at this
              cases this
            have hnd := need_bd (N := A.1) (h := pT P b 6) hO.2.2.1 (hA5 o hc.1) hT
            have hn1 := hnd.2.2 hne
            rcases I6 o ho with h | h
            · refine Or.inr ⟨by omega, ?_⟩
              simp [setCh, xput_at']
              omega
            · omega
          · simpa [setCh, xput_at', hoc] using I6 o ho
    · rcases List.mem_append.mp hb' with z | z
      · have hn1 : b' ∉ A.2 := fun y => hn (List.mem_append_left _ y)
        rcases List.mem_append.mp hc with y | y
        · exact I7 b' z hn1 c y hT
        · have y := List.mem_singleton.mp y
          subst y
          exact (hq b' z).2 hT.symm
      · have z := List.mem_singleton.mp z
        subst z
        exact absurd (by simp) hn
theorem BI_fold {t : Int} (hP : PV P) {N : Nat → Nat → Int} (h5 : ∀ o, o < pv P → 20 ≤ N 5 o ∧ N 5 o ≤ 300) : ∀ (Q done : List Nat) (A : NK), BI P t N done A → (done ++ Q).Pairwise (qR P) → (∀ b, b ∈ Q → b < pn P ∧ N 2 b = -1) → BI P t N (done ++ Q) (Q.foldl (bakeS P t) A) := by
  intro Q
  induction Q with
  | nil => intro done A I _ _; simpa using I
  | cons b Q ih =>
    intro done A I hp hb
    have hp' : (done ++ [b] ++ Q).Pairwise (qR P) := by simpa using hp
    have hsp := List.pairwise_append.mp hp
    have hbd : b ∉ done := fun z => (hsp.2.2 b z b (by simp)).1 rfl
    have I' := BI_step hP h5 I hbd (hb b (by simp)).1 (hb b (by simp)).2 (fun c hc => hsp.2.2 c hc b (by simp))
    have := ih (done ++ [b]) _ I' hp' (fun c hc => hb c (by simp [hc]))
    simpa using this
theorem bakeR_BI {t : Int} (hP : PV P) {N : Nat → Nat → Int} (h5 : ∀ o, o < pv P → 20 ≤ N 5 o ∧ N 5 o ≤ 300) {Q : List Nat} (hp : Q.Pairwise (qR P)) (hb : ∀ b, b ∈ Q → b < pn P ∧ N 2 b = -1) : BI P t N Q (bakeR P t N Q) := by
  have := BI_fold (t := t) hP h5 Q [] (N, []) ⟨fun _ _ _ _ _ _ => rfl, fun _ _ => ⟨rfl, rfl⟩, fun b h => absurd h List.not_mem_nil, List.Sublist.refl _, fun c h => absurd h List.not_mem_nil, fun o _ => Or.inl ⟨rfl, rfl, rfl⟩, fun b' h => absurd h List.not_mem_nil⟩ (by simpa using hp) hb
  simpa [bakeR] using this
/-- the rows behind a step -/
theorem mxTo_bd {N : Nat → Nat → Int} {t : Int} {m : Nat} (h : m ≤ pn P) : m ≤ mxTo P N t m ∧ mxTo P N t m ≤ pn P := by
  unfold mxTo
  omega
theorem range_sorted (n : Nat) : (List.range n).Pairwise (· < ·) := List.pairwise_lt_range
theorem newS_mem {N : Nat → Nat → Int} {t : Int} {b : Nat} : b ∈ newS P N t ↔ b < pn P ∧ N 0 b ≠ -1 ∧ rE P N b = t := by
  simp [newS]
theorem newO_mem {N : Nat → Nat → Int} {t : Int} {b : Nat} : b ∈ newO P N t ↔ b < pn P ∧ N 1 b ≠ -1 ∧ pE P N b = t := by
  simp [newO]
/-- the queues of a minute: who stands in them, in which order -/
theorem queS {t : Int} {M : NS} (hP : PV P) (I : Minv P t M) (ht : 0 ≤ t) : (∀ b, b ∈ M.2.1 ++ newS P M.1 t ↔ (b < M.2.2.2 ∧ rE P M.1 b ≤ t ∧ M.1 1 b = -1)) ∧ (M.2.1 ++ newS P M.1 t).Pairwise (qR P) := by
  obtain ⟨i0, i1, i2, i3, i4, i5, i6, i7, i8, i8', i10, i9, i11, i12, i13⟩ := I
  have hnew : ∀ b, b ∈ newS P M.1 t → b < M.2.2.2 ∧ rE P M.1 b = t ∧ M.1 1 b = -1 := fun b hb => by
    have h := newS_mem.mp hb
    have hm : b < M.2.2.2 := by
      rcases Nat.lt_or_ge b M.2.2.2 with z | z
      · exact z
      · exact absurd ((i1 b).2 z) h.2.1
    refine ⟨hm, h.2.2, ?_⟩
    rcases i2 b with z | z
    · exact z
    · have := h.2.2
      omega
  refine ⟨fun b => ?_, ?_⟩
  · rw [List.mem_append, i6, newS_mem]
    constructor
    · rintro (h | h)
      · exact ⟨h.1, by omega, h.2.2⟩
      · have := hnew b (newS_mem.mpr h)
        exact ⟨this.1, by omega, this.2.2⟩
    · rintro ⟨h1, h2, h3⟩
      have h0 := (i1 b).1 h1
      by_cases q : rE P M.1 b = t
      · exact Or.inr ⟨by omega, by omega, q⟩
      · exact Or.inl ⟨h1, by omega, h3⟩
  · refine List.pairwise_append.mpr ⟨i8, ?_, fun i hi j hj => ?_⟩
    · refine List.Pairwise.imp (fun {a b} (h : a < b) => ⟨by omega, fun _ => h⟩) ((range_sorted _).sublist (List.filter_sublist))
    · have h1 := (i6 i).mp hi
      have h2 := hnew j hj
      refine ⟨fun z => by subst z; omega, fun hT => ?_⟩
      rcases Nat.lt_or_ge i j with z | z
      · exact z
      · have hlt : j < i := by
          rcases Nat.lt_or_ge j i with y | y
          · exact y
          · have : i = j := by omega
            subst this
            omega
        have := i11 j i hlt h1.1
        have e1 : rE P M.1 i = M.1 0 i + pT P i 0 + pT P i 1 := rfl
        have e2 : rE P M.1 j = M.1 0 j + pT P j 0 + pT P j 1 := rfl
        rw [hT] at e1
        omega
theorem queO {t : Int} {M : NS} (hP : PV P) (I : Minv P t M) (ht : 0 ≤ t) : (∀ b, b ∈ M.2.2.1 ++ newO P M.1 t ↔ (M.1 1 b ≠ -1 ∧ pE P M.1 b ≤ t ∧ M.1 2 b = -1 ∧ M.1 3 b = -1)) ∧ (M.2.2.1 ++ newO P M.1 t).Pairwise (qR P) := by
  obtain ⟨i0, i1, i2, i3, i4, i5, i6, i7, i8, i8', i10, i9, i11, i12, i13⟩ := I
  have hlt : ∀ b, M.1 1 b ≠ -1 → b < pn P := fun b hb => by
    rcases i2 b with z | z
    · exact absurd z hb
    · omega
  have hnew : ∀ b, b ∈ newO P M.1 t → M.1 1 b ≠ -1 ∧ pE P M.1 b = t ∧ M.1 2 b = -1 ∧ M.1 3 b = -1 := fun b hb => by
    have h := newO_mem.mp hb
    have hT := (hP.1 b h.1).2.2.2.2.1
    refine ⟨h.2.1, h.2.2, ?_, ?_⟩
    · rcases i3 b with z | z
      · exact z
      · have := h.2.2
        omega
    · rcases i4 b with z | z
      · exact z
      · have := h.2.2
        omega
  refine ⟨fun b => ?_, ?_⟩
  · rw [List.mem_append, i7, newO_mem]
    constructor
    · rintro (h | h)
      · exact ⟨h.1, by omega, h.2.2⟩
      · have := hnew b (newO_mem.mpr h)
        exact ⟨this.1, by omega, this.2.2⟩
    · rintro ⟨h1, h2, h3⟩
      by_cases q : pE P M.1 b = t
      · exact Or.inr ⟨hlt b h1, h1, q⟩
      · exact Or.inl ⟨h1, by omega, h3⟩
  · refine List.pairwise_append.mpr ⟨i8', ?_, fun i hi j hj => ?_⟩
    · refine List.Pairwise.imp (fun {a b} (h : a < b) => ⟨by omega, fun _ => h⟩) ((range_sorted _).sublist (List.filter_sublist))
    · have h1 := (i7 i).mp hi
      have h2 := hnew j hj
      refine ⟨fun z => by subst z; omega, fun hT => ?_⟩
      rcases Nat.lt_or_ge i j with z | z
      · exact z
      · have hji : j < i := by
          rcases Nat.lt_or_ge j i with y | y
          · exact y
          · have : i = j := by omega
            subst this
            omega
        have := (i12 j i hji hT.symm h1.1).2
        have e1 : pE P M.1 i = M.1 1 i + pT P i 2 + pT P i 3 := rfl
        have e2 : pE P M.1 j = M.1 1 j + pT P j 2 + pT P j 3 := rfl
        rw [hT] at e1
        omega
/-- a step, by its parts -/
def sQs (P : NP) (t : Int) (M : NS) : List Nat := M.2.1 ++ newS P M.1 t
def sQo (P : NP) (t : Int) (M : NS) : List Nat := M.2.2.1 ++ newO P M.1 t
def sQk (P : NP) (t : Int) (M : NS) : List Nat := (sQo P t M).filter (fun b => !lateB P M.1 t b)
def sN1 (P : NP) (t : Int) (M : NS) : Nat → Nat → Int := fun r b => if r = 3 ∧ b ∈ sQo P t M ∧ lateB P M.1 t b = true then t else M.1 r b
def sA (P : NP) (t : Int) (M : NS) : NK := bakeR P t (sN1 P t M) (sQk P t M)
def sK (P : NP) (t : Int) (M : NS) : Nat := shCnt P (sA P t M).1 t (sQs P t M).length
def sN3 (P : NP) (t : Int) (M : NS) : Nat → Nat → Int := fun r b => if r = 1 ∧ b ∈ (sQs P t M).take (sK P t M) then t else (sA P t M).1 r b
def sm (P : NP) (t : Int) (M : NS) : Nat := mxTo P (sN3 P t M) t M.2.2.2
theorem mstep_eq (t : Int) (M : NS) : mstep P t M = (mixR (sN3 P t M) t M.2.2.2 (sm P t M), (sQs P t M).drop (sK P t M), (sA P t M).2, sm P t M) := by
  have e1 : spoilR P t M.1 (M.2.2.1 ++ newO P M.1 t) = (sN1 P t M, sQk P t M) := spoilR_eq t M.1 _
  unfold mstep
  dsimp only
  rw [e1, shapeR_eq]
  rfl
end NINV
