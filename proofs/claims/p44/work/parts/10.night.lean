/-! THE NIGHT, mathematically. P: times by batch (0 mix, 1 rising, 2 shape, 3 proofing, 4 limit, 5 bake, 6 heat), ovens (0 shelves, 1 heat, 2 rate, 3 broken), how many batches and ovens, mixers, bakers. N: by batch 0 mixing begins, 1 shaping begins, 2 baking begins, 3 spoiled, 4 oven (-1: not yet); by oven 5 heat, 6 steady from, 7 minutes of change. -/
abbrev NP : Type := (Nat → Nat → Int) × (Nat → Nat → Int) × Nat × Nat × Int × Int
abbrev pT (P : NP) : Nat → Nat → Int := P.1
abbrev pO (P : NP) : Nat → Nat → Int := P.2.1
abbrev pn (P : NP) : Nat := P.2.2.1
abbrev pv (P : NP) : Nat := P.2.2.2.1
abbrev pm (P : NP) : Int := P.2.2.2.2.1
abbrev pk (P : NP) : Int := P.2.2.2.2.2
abbrev NS : Type := (Nat → Nat → Int) × List Nat × List Nat × Nat
def rE (P : NP) (N : Nat → Nat → Int) (b : Nat) : Int := N 0 b + pT P b 0 + pT P b 1
def pE (P : NP) (N : Nat → Nat → Int) (b : Nat) : Int := N 1 b + pT P b 2 + pT P b 3
/-- the first place below n with p, n if there is none -/
def firstTo (p : Nat → Bool) : Nat → Nat
  | 0 => 0
  | n + 1 => if firstTo p n < n then firstTo p n else if p n = true then n else n + 1
theorem firstTo_le (p : Nat → Bool) : ∀ n, firstTo p n ≤ n
  | 0 => Nat.le_refl _
  | n + 1 => by
    have := firstTo_le p n
    rw [firstTo]
    split
    · omega
    · split <;> omega
theorem firstTo_before (p : Nat → Bool) : ∀ n i, i < firstTo p n → p i = false
  | 0, i, h => absurd h (Nat.not_lt_zero _)
  | n + 1, i, h => by
    have hl := firstTo_le p n
    rw [firstTo] at h
    split at h
    · exact firstTo_before p n i h
    · split at h
      · exact firstTo_before p n i (by omega)
      · next q =>
        by_cases e : i = n
        · subst e
          exact Bool.not_eq_true _ ▸ q
        · exact firstTo_before p n i (by omega)
theorem firstTo_at (p : Nat → Bool) : ∀ n, firstTo p n < n → p (firstTo p n) = true
  | 0, h => absurd h (Nat.not_lt_zero _)
  | n + 1, h => by
    rw [firstTo] at h ⊢
    split at h
    · next q => rw [if_pos q]; exact firstTo_at p n q
    · next q =>
      rw [if_neg q]
      split at h
      · next q2 => rw [if_pos q2]; exact q2
      · omega
theorem firstTo_none {p : Nat → Bool} {n : Nat} : firstTo p n = n ↔ ∀ i, i < n → p i = false := by
  constructor
  · intro h i hi
    exact firstTo_before p n i (by omega)
  · intro h
    rcases Nat.lt_or_ge (firstTo p n) n with q | q
    · have := firstTo_at p n q
      rw [h _ q] at this
      cases this
    · have := firstTo_le p n
      omega
theorem firstTo_congr {p q : Nat → Bool} {n : Nat} (h : ∀ i, i < n → p i = q i) : firstTo p n = firstTo q n := by
  induction n with
  | zero => rfl
  | succ n ih => rw [firstTo, firstTo, ih (fun i hi => h i (by omega)), h n (by omega)]
def usedB (P : NP) (N : Nat → Nat → Int) (o : Nat) (t : Int) (b : Nat) : Bool := decide (N 4 b = (o : Int)) && decide (N 2 b ≠ -1) && decide (N 2 b ≤ t) && decide (t < N 2 b + pT P b 5)
def used (P : NP) (N : Nat → Nat → Int) (o : Nat) (t : Int) : Int := sumTo (pn P) (fun b => if usedB P N o t b = true then 1 else 0)
def shB (P : NP) (N : Nat → Nat → Int) (t : Int) (b : Nat) : Bool := decide (N 1 b ≠ -1) && decide (N 1 b ≤ t) && decide (t < N 1 b + pT P b 2)
def shN (P : NP) (N : Nat → Nat → Int) (t : Int) : Int := sumTo (pn P) (fun b => if shB P N t b = true then 1 else 0)
def mxB (P : NP) (N : Nat → Nat → Int) (t : Int) (b : Nat) : Bool := decide (N 0 b ≠ -1) && decide (N 0 b ≤ t) && decide (t < N 0 b + pT P b 0)
def mxN (P : NP) (N : Nat → Nat → Int) (t : Int) : Int := sumTo (pn P) (fun b => if mxB P N t b = true then 1 else 0)
def isFree (P : NP) (N : Nat → Nat → Int) (h t : Int) (o : Nat) : Bool := decide (pO P o 3 = 0) && decide (N 6 o ≤ t) && decide (N 5 o = h) && decide (used P N o t < pO P o 0)
def freeI (P : NP) (N : Nat → Nat → Int) (h t : Int) : Nat := firstTo (isFree P N h t) (pv P)
def isChg (N : Nat → Nat → Int) (h t : Int) (o : Nat) : Bool := decide (t < N 6 o) && decide (N 5 o = h)
def chgI (P : NP) (N : Nat → Nat → Int) (h t : Int) : Nat := firstTo (isChg N h t) (pv P)
def need (P : NP) (N : Nat → Nat → Int) (h : Int) (o : Nat) : Int := upD ((N 5 o - h).natAbs : Int) (pO P o 2)
def canCh (P : NP) (N : Nat → Nat → Int) (t : Int) (o : Nat) : Bool := decide (N 6 o ≤ t) && decide (pO P o 3 = 0) && decide (used P N o t = 0)
/-- the oven that changes: the fewest minutes, the first one; n for none -/
def bestO (P : NP) (N : Nat → Nat → Int) (h t : Int) : Nat → Option Nat
  | 0 => none
  | n + 1 => if canCh P N t n = true then match bestO P N h t n with
      | none => some n
      | some c => if need P N h n < need P N h c then some n else some c
    else bestO P N h t n
def setCh (P : NP) (N : Nat → Nat → Int) (h t : Int) (c : Nat) : Nat → Nat → Int := xput (xput (xput N 5 c h) 6 c (t + need P N h c)) 7 c (N 7 c + need P N h c)
def changeO (P : NP) (N : Nat → Nat → Int) (h t : Int) : Nat → Nat → Int :=
  if chgI P N h t < pv P then N else match bestO P N h t (pv P) with
    | none => N
    | some c => setCh P N h t c
abbrev NK : Type := (Nat → Nat → Int) × List Nat
def spoilS (P : NP) (t : Int) (A : NK) (b : Nat) : NK := if pT P b 4 < t - pE P A.1 b then (xput A.1 3 b t, A.2) else (A.1, A.2 ++ [b])
def bakeS (P : NP) (t : Int) (A : NK) (b : Nat) : NK :=
  if freeI P A.1 (pT P b 6) t < pv P then (xput (xput A.1 2 b t) 4 b (freeI P A.1 (pT P b 6) t : Nat), A.2) else (changeO P A.1 (pT P b 6) t, A.2 ++ [b])
def newS (P : NP) (N : Nat → Nat → Int) (t : Int) : List Nat := (List.range (pn P)).filter (fun b => decide (N 0 b ≠ -1) && decide (rE P N b = t))
def newO (P : NP) (N : Nat → Nat → Int) (t : Int) : List Nat := (List.range (pn P)).filter (fun b => decide (N 1 b ≠ -1) && decide (pE P N b = t))
def shapeS (t : Int) (N : Nat → Nat → Int) (b : Nat) : Nat → Nat → Int := xput N 1 b t
def mixR (N : Nat → Nat → Int) (t : Int) (m m' : Nat) : Nat → Nat → Int := fun r b => if r = 0 ∧ m ≤ b ∧ b < m' then t else N r b
def shCnt (P : NP) (N : Nat → Nat → Int) (t : Int) (q : Nat) : Nat := (min (q : Int) (max 0 (pk P - shN P N t))).toNat
def mxTo (P : NP) (N : Nat → Nat → Int) (t : Int) (m : Nat) : Nat := (min (pn P : Int) ((m : Int) + max 0 (pm P - mxN P N t))).toNat
def spoilR (P : NP) (t : Int) (N : Nat → Nat → Int) (Q : List Nat) : NK := Q.foldl (spoilS P t) (N, [])
def bakeR (P : NP) (t : Int) (N : Nat → Nat → Int) (Q : List Nat) : NK := Q.foldl (bakeS P t) (N, [])
def shapeR (t : Int) (N : Nat → Nat → Int) (Q : List Nat) : Nat → Nat → Int := Q.foldl (shapeS t) N
/-- the steps of a minute -/
def mstep (P : NP) (t : Int) (M : NS) : NS :=
  let Qs := M.2.1 ++ newS P M.1 t
  let sp := spoilR P t M.1 (M.2.2.1 ++ newO P M.1 t)
  let bk := bakeR P t sp.1 sp.2
  let k := shCnt P bk.1 t Qs.length
  let N3 := shapeR t bk.1 (Qs.take k)
  let m' := mxTo P N3 t M.2.2.2
  (mixR N3 t M.2.2.2 m', Qs.drop k, bk.2, m')
def M0 (P : NP) : NS := (fun r o => if r = 5 then pO P o 1 else if r = 7 then 0 else -1, [], [], 0)
def Mt (P : NP) : Nat → NS
  | 0 => M0 P
  | n + 1 => mstep P (n : Int) (Mt P n)
/-- what is known of the times -/
def PV (P : NP) : Prop := (∀ b, b < pn P → (1 ≤ pT P b 0 ∧ pT P b 0 ≤ 120) ∧ (0 ≤ pT P b 1 ∧ pT P b 1 ≤ 720) ∧ (1 ≤ pT P b 2 ∧ pT P b 2 ≤ 120) ∧ (0 ≤ pT P b 3 ∧ pT P b 3 ≤ 720) ∧ (0 ≤ pT P b 4 ∧ pT P b 4 ≤ 240) ∧ (1 ≤ pT P b 5 ∧ pT P b 5 ≤ 120) ∧ (100 ≤ pT P b 6 ∧ pT P b 6 ≤ 300)) ∧
  (∀ o, o < pv P → (1 ≤ pO P o 0 ∧ pO P o 0 ≤ 7) ∧ (20 ≤ pO P o 1 ∧ pO P o 1 ≤ 300) ∧ (1 ≤ pO P o 2 ∧ pO P o 2 ≤ 50) ∧ (pO P o 3 = 0 ∨ pO P o 3 = 1)) ∧ pn P ≤ 60 ∧ pv P ≤ 4 ∧ (1 ≤ pm P ∧ pm P ≤ 5) ∧ (1 ≤ pk P ∧ pk P ≤ 5)
/-- order of two batches in a queue -/
def qR (P : NP) (i j : Nat) : Prop := i ≠ j ∧ (pT P i = pT P j → i < j)
/-- what holds at the beginning of minute t -/
def Minv (P : NP) (t : Int) (M : NS) : Prop :=
  M.2.2.2 ≤ pn P ∧
  (∀ b, (b < M.2.2.2 → 0 ≤ M.1 0 b ∧ M.1 0 b < t) ∧ (M.2.2.2 ≤ b → M.1 0 b = -1)) ∧
  (∀ b, M.1 1 b = -1 ∨ (b < M.2.2.2 ∧ rE P M.1 b ≤ M.1 1 b ∧ M.1 1 b < t)) ∧
  (∀ b, M.1 2 b = -1 ∨ (M.1 1 b ≠ -1 ∧ pE P M.1 b ≤ M.1 2 b ∧ M.1 2 b < t ∧ M.1 3 b = -1 ∧ M.1 2 b - pE P M.1 b ≤ pT P b 4)) ∧
  (∀ b, M.1 3 b = -1 ∨ (M.1 1 b ≠ -1 ∧ M.1 3 b = pE P M.1 b + pT P b 4 + 1 ∧ M.1 3 b < t)) ∧
  (∀ b, M.1 1 b ≠ -1 → M.1 2 b = -1 → M.1 3 b = -1 → t ≤ pE P M.1 b + pT P b 4 + 1) ∧
  (∀ b, b ∈ M.2.1 ↔ (b < M.2.2.2 ∧ rE P M.1 b < t ∧ M.1 1 b = -1)) ∧
  (∀ b, b ∈ M.2.2.1 ↔ (M.1 1 b ≠ -1 ∧ pE P M.1 b < t ∧ M.1 2 b = -1 ∧ M.1 3 b = -1)) ∧
  M.2.1.Pairwise (qR P) ∧ M.2.2.1.Pairwise (qR P) ∧
  (∀ b, (M.1 2 b = -1 → M.1 4 b = -1) ∧ (M.1 2 b ≠ -1 → 0 ≤ M.1 4 b ∧ M.1 4 b < pv P)) ∧
  (∀ o, o < pv P → (20 ≤ M.1 5 o ∧ M.1 5 o ≤ 300) ∧ (-1 ≤ M.1 6 o ∧ M.1 6 o < t + 300) ∧ (0 ≤ M.1 7 o ∧ M.1 7 o ≤ 300 * t)) ∧
  (∀ b b', b < b' → b' < M.2.2.2 → M.1 0 b ≤ M.1 0 b') ∧
  (∀ b b', b < b' → pT P b = pT P b' → M.1 1 b' ≠ -1 → M.1 1 b ≠ -1 ∧ M.1 1 b ≤ M.1 1 b') ∧
  (∀ b b', b < b' → pT P b = pT P b' → M.1 2 b' ≠ -1 → M.1 3 b ≠ -1 ∨ (M.1 2 b ≠ -1 ∧ M.1 2 b ≤ M.1 2 b'))
