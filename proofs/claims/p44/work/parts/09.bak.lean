/-! THE BAKERY, mathematically: a function β of places (the reference's own row), what holds of it, how the class keeps it -/
abbrev dF (β : Nat → Int) (d w : Nat) : Int := β (10 + 10 * d + w)
abbrev ovF (β : Nat → Int) (o w : Nat) : Int := β (70 + 4 * o + w)
abbrev stF (β : Nat → Int) (s w : Nat) : Int := β (86 + 4 * s + w)
abbrev vnF (β : Nat → Int) (v : Nat) : Int := β (166 + v)
abbrev oF (β : Nat → Int) (o w : Nat) : Int := β (169 + 5 * o + w)
def Vd (β : Nat → Int) : Prop := ∀ d : Nat, (d : Int) < β 4 → (1 ≤ dF β d 0 ∧ dF β d 0 ≤ 120) ∧ (0 ≤ dF β d 1 ∧ dF β d 1 ≤ 300) ∧ (1 ≤ dF β d 2 ∧ dF β d 2 ≤ 120) ∧ (0 ≤ dF β d 3 ∧ dF β d 3 ≤ 300) ∧ (0 ≤ dF β d 4 ∧ dF β d 4 ≤ 240) ∧ (1 ≤ dF β d 5 ∧ dF β d 5 ≤ 120) ∧ (100 ≤ dF β d 6 ∧ dF β d 6 ≤ 300) ∧ (5 ≤ dF β d 7 ∧ dF β d 7 ≤ 200) ∧ (1 ≤ dF β d 8 ∧ dF β d 8 ≤ 1440) ∧ (0 ≤ dF β d 9 ∧ dF β d 9 ≤ 999)
def Vo (β : Nat → Int) : Prop := ∀ o : Nat, (o : Int) < β 5 → (1 ≤ ovF β o 0 ∧ ovF β o 0 ≤ 7) ∧ (20 ≤ ovF β o 1 ∧ ovF β o 1 ≤ 300) ∧ (1 ≤ ovF β o 2 ∧ ovF β o 2 ≤ 50) ∧ (ovF β o 3 = 0 ∨ ovF β o 3 = 1)
def Vs (β : Nat → Int) : Prop := ∀ s : Nat, (s : Int) < β 7 → (0 ≤ stF β s 0 ∧ stF β s 0 ≤ β 6) ∧ (0 ≤ stF β s 1 ∧ stF β s 1 ≤ β 6) ∧ stF β s 0 ≠ stF β s 1 ∧ (1 ≤ stF β s 2 ∧ stF β s 2 ≤ 120) ∧ (stF β s 3 = 0 ∨ stF β s 3 = 1)
def Vv (β : Nat → Int) : Prop := ∀ v : Nat, (v : Int) < β 8 → 1 ≤ vnF β v ∧ vnF β v ≤ 2000
def Vr (β : Nat → Int) : Prop := ∀ o : Nat, (o : Int) < β 9 → (0 ≤ oF β o 0 ∧ oF β o 0 < β 6) ∧ (0 ≤ oF β o 1 ∧ oF β o 1 < β 4) ∧ (1 ≤ oF β o 2 ∧ oF β o 2 ≤ 200) ∧ (0 ≤ oF β o 3 ∧ oF β o 3 ≤ 1439) ∧ (oF β o 4 = 0 ∨ oF β o 4 = 1)
/-- a bakery that a text and changes can make (and one thing more of latestStartWith) -/
def V (β : Nat → Int) : Prop := (10 ≤ β 0 ∧ β 0 ≤ 41) ∧ (0 ≤ β 1 ∧ β 1 ≤ 120) ∧ (1 ≤ β 2 ∧ β 2 ≤ 5) ∧ (1 ≤ β 3 ∧ β 3 ≤ 5) ∧ (0 ≤ β 4 ∧ β 4 ≤ 6) ∧ (0 ≤ β 5 ∧ β 5 ≤ 4) ∧ (0 ≤ β 6 ∧ β 6 ≤ 7) ∧ (0 ≤ β 7 ∧ β 7 ≤ 20) ∧ (0 ≤ β 8 ∧ β 8 ≤ 3) ∧ (0 ≤ β 9 ∧ β 9 ≤ 24) ∧ Vd β ∧ Vo β ∧ Vs β ∧ Vv β ∧ Vr β
/-- the class's number of a place -/
def plC (p : Int) : Int := if p = 0 then 7 else p - 1
/-- the class's bakery at b is β (e: what the first van carries more) -/
def Bk (σ : xS) (b : Nat) (β : Nat → Int) (e : Int) : Prop :=
  σ b 0 = β 0 ∧ σ b 1 = β 1 ∧ σ b 2 = β 2 ∧ σ b 3 = β 3 ∧ σ b 5 = β 4 ∧ σ b 7 = β 5 ∧ σ b 8 = β 6 ∧ σ (b + 39) 4 = β 7 ∧ σ b 11 = β 8 ∧ σ b 13 = β 9 ∧
  (∀ d : Nat, (d : Int) < β 4 → ∀ w, w < 10 → σ (b + 2 + d) w = dF β d w) ∧
  (∀ o : Nat, (o : Int) < β 5 → ∀ w, w < 4 → σ (b + 9 + o) w = ovF β o w) ∧
  (∀ s : Nat, (s : Int) < β 7 → σ (b + 39 + 1) s = plC (stF β s 0) ∧ σ (b + 39 + 2) s = plC (stF β s 1) ∧ σ (b + 39 + 3) s = stF β s 2 ∧ σ (b + 39 + 4) s = stF β s 3) ∧
  (∀ v : Nat, (v : Int) < β 8 → σ (b + 38) v = vnF β v + (if v = 0 then e else 0)) ∧
  (∀ o : Nat, (o : Int) < β 9 → ∀ w, w < 5 → σ (b + 14 + o) w = oF β o w)
def loavesF (β : Nat → Int) (d : Int) : Int := sumTo (β 9).toNat (fun o => if oF β o 4 = 0 ∧ oF β o 1 = d then oF β o 2 else 0)
def dueF (z : Int) (β : Nat → Int) (d : Int) : Int := minTo z (β 9).toNat (fun o => if oF β o 4 = 0 ∧ oF β o 1 = d then oF β o 3 else z)
def batchesF (β : Nat → Int) (d : Nat) : Int := upD (loavesF β d) (dF β d 7)
def allF (β : Nat → Int) : Int := sumTo (β 4).toNat (batchesF β)
def aheadB (β : Nat → Int) (k o : Nat) : Bool := decide (oF β k 3 < oF β o 3) || (decide (oF β k 3 = oF β o 3) && decide (k < o))
def aheadF (β : Nat → Int) (o : Nat) : Int := sumTo (β 9).toNat (fun k => if oF β k 4 = 0 ∧ oF β k 1 = oF β o 1 ∧ aheadB β k o = true then oF β k 2 else 0)
theorem loavesF_bd {β : Nat → Int} (hV : V β) (d : Int) : 0 ≤ loavesF β d ∧ loavesF β d ≤ 4800 := by
  obtain ⟨-, -, -, -, -, -, -, -, -, v9, -, -, -, -, vr⟩ := hV
  have h := sumTo_bd (n := (β 9).toNat) (f := fun o => if oF β o 4 = 0 ∧ oF β o 1 = d then oF β o 2 else 0) (lo := 0) (hi := 200) (fun i hi => by
    have := (vr i (by omega)).2.2.1
    split <;> omega)
  have e : ((β 9).toNat : Int) = β 9 := by omega
  rw [e] at h
  unfold loavesF
  omega
theorem aheadF_bd {β : Nat → Int} (hV : V β) (o : Nat) : 0 ≤ aheadF β o ∧ aheadF β o ≤ 4800 := by
  obtain ⟨-, -, -, -, -, -, -, -, -, v9, -, -, -, -, vr⟩ := hV
  have h := sumTo_bd (n := (β 9).toNat) (f := fun k => if oF β k 4 = 0 ∧ oF β k 1 = oF β o 1 ∧ aheadB β k o = true then oF β k 2 else 0) (lo := 0) (hi := 200) (fun i hi => by
    have := (vr i (by omega)).2.2.1
    split <;> omega)
  have e : ((β 9).toNat : Int) = β 9 := by omega
  rw [e] at h
  unfold aheadF
  omega
theorem batchesF_bd {β : Nat → Int} (hV : V β) {d : Nat} (hd : (d : Int) < β 4) : 0 ≤ batchesF β d ∧ batchesF β d ≤ 4800 := by
  have h1 := loavesF_bd hV d
  obtain ⟨-, -, -, -, -, -, -, -, -, -, vd, -⟩ := hV
  have h2 := (vd d hd).2.2.2.2.2.2.2.1
  have h3 := upD_le (a := loavesF β d) (y := dF β d 7) h1.1 (by omega)
  unfold batchesF
  omega
theorem allF_bd {β : Nat → Int} (hV : V β) : 0 ≤ allF β ∧ allF β ≤ 28800 := by
  have h := sumTo_bd (n := (β 4).toNat) (f := batchesF β) (lo := 0) (hi := 4800) (fun i hi => by
    have : (i : Int) < β 4 := by omega
    exact batchesF_bd hV this)
  obtain ⟨-, -, -, -, v4, -⟩ := hV
  have e : ((β 4).toNat : Int) = β 4 := by omega
  rw [e] at h
  unfold allF
  omega
/-! the class's questions -/
section CBAK
variable {σ : xS} {b n : Nat} {β : Nat → Int} {e : Int}
theorem c_hasOrder (hB : Bk σ b β e) (hV : V β) {p : Int} (h1 : -2147483648 ≤ p) (h2 : p < 2147483648) : m_X1_hasOrder b p σ = some (if 0 ≤ p ∧ p < β 9 ∧ oF β p.toNat 4 = 0 then 1 else 0) := by
  obtain ⟨b0, b1, b2, b3, b4, b5, b6, b7, b8, b9, bd, bo, bs, bv, br⟩ := hB
  obtain ⟨v0, v1, v2, v3, v4, v5, v6, v7, v8, v9, vd, vo, vs, vv, vr⟩ := hV
  unfold m_X1_hasOrder
  simp (disch := omega) only [xj_eq, zI_of, b9]
  by_cases q1 : p < 0
  · rw [if_pos q1, if_neg (by omega)]
    rfl
  · rw [if_neg q1]
    by_cases q2 : β 9 ≤ p
    · rw [if_pos q2, if_neg (by omega)]
      rfl
    · rw [if_neg q2]
      have hx := br p.toNat (by omega) 4 (by omega)
      have hy := (vr p.toNat (by omega)).2.2.2.2
      simp (disch := omega) only [xck_of, zI_of, hx]
      by_cases q3 : oF β p.toNat 4 = 0
      · rw [if_pos q3, if_pos (by omega)]
        rfl
      · rw [if_neg q3, if_neg (by omega)]
        rfl
theorem c_hasOrderN (hB : Bk σ b β e) (hV : V β) {i : Nat} (hi : (i : Int) < β 9) : m_X1_hasOrder b i σ = some (if oF β i 4 = 0 then 1 else 0) := by
  have v9 := hV.2.2.2.2.2.2.2.2.2.1
  rw [c_hasOrder hB hV (by omega) (by omega), tn_cast]
  by_cases q : oF β i 4 = 0
  · rw [if_pos q, if_pos ⟨by omega, hi, q⟩]
  · rw [if_neg q, if_neg (fun h => q h.2.2)]
theorem c_divided {a y : Int} (ha : 0 ≤ a) (hy : 0 < y) (ha2 : a < 1000000) (hy2 : y < 1000000) : m_X12_dividedUp a y σ = some (upD a y) := by
  unfold m_X12_dividedUp upD
  simp (disch := omega) only [xj_eq, zI_of, xnz_of]
  rw [if_pos hy]
theorem c_loavesOf (hB : Bk σ b β e) (hV : V β) (hn : 4000000 ≤ n) {d : Int} (h1 : 0 ≤ d) (h2 : d < 6) : m_X1_loavesOf n b d σ = some (loavesF β d) := by
  have hB' := hB
  have hV' := hV
  obtain ⟨b0, b1, b2, b3, b4, b5, b6, b7, b8, b9, bd, bo, bs, bv, br⟩ := hB
  obtain ⟨v0, v1, v2, v3, v4, v5, v6, v7, v8, v9, vd, vo, vs, vv, vr⟩ := hV
  unfold m_X1_loavesOf
  refine loop_eq (β 9).toNat (fun i => (sumTo i (fun o => if oF β o 4 = 0 ∧ oF β o 1 = d then oF β o 2 else 0), (i : Int))) rfl ?_ ?_ (by omega)
  · intro i hi rec
    have hi' : (i : Int) < β 9 := by omega
    have hr := vr i hi'
    have hx1 := br i hi' 1 (by omega)
    have hx2 := br i hi' 2 (by omega)
    dsimp only
    simp (disch := omega) only [zI_of, b9, if_neg, c_hasOrderN hB' hV' hi', bind_some', xj_eq, xlet_eq, xck_of, tn_cast, hx1, hx2]
    rw [sumTo]
    by_cases q : oF β i 4 = 0
    · by_cases q2 : oF β i 1 = d
      · simp [q, q2]
      · simp [q, q2]
    · simp [q]
  · intro rec
    dsimp only
    rw [show ((β 9).toNat : Int) = β 9 by omega]
    simp (disch := omega) only [zI_of, b9, if_pos]
    rfl
theorem c_inThisRoom (hB : Bk σ b β e) (hV : V β) {m : Int} (h1 : 0 ≤ m) (h2 : m ≤ 300) : m_X1_inThisRoom b m σ = some (upD (24 * m) (β 0)) := by
  obtain ⟨b0, -⟩ := hB
  obtain ⟨v0, -⟩ := hV
  unfold m_X1_inThisRoom
  rw [b0, c_divided (by omega) (by omega) (by omega) (by omega), bind_some', Int.mul_comm m 24]
theorem c_batchesOf (hB : Bk σ b β e) (hV : V β) (hn : 4000000 ≤ n) {d : Nat} (hd : (d : Int) < β 4) : m_X1_batchesOf n b d σ = some (batchesF β d) := by
  have hl := loavesF_bd hV d
  have hB' := hB
  have hV' := hV
  obtain ⟨b0, b1, b2, b3, b4, b5, b6, b7, b8, b9, bd, bo, bs, bv, br⟩ := hB
  obtain ⟨v0, v1, v2, v3, v4, v5, v6, v7, v8, v9, vd, vo, vs, vv, vr⟩ := hV
  have hx := bd d hd 7 (by omega)
  have hy := (vd d hd).2.2.2.2.2.2.2.1
  unfold m_X1_batchesOf batchesF
  rw [c_loavesOf hB' hV' hn (by omega) (by omega)]
  simp (disch := omega) only [bind_some', zI_of, xck_of, tn_cast, hx]
  rw [c_divided (by omega) (by omega) (by omega) (by omega), bind_some']
theorem c_batchesNeeded (hB : Bk σ b β e) (hV : V β) (hn : 4000000 ≤ n) : m_X1_batchesNeeded n b σ = some (allF β) := by
  have b4 := hB.2.2.2.2.1
  have v4 := hV.2.2.2.2.1
  unfold m_X1_batchesNeeded
  refine loop_eq (β 4).toNat (fun i => (sumTo i (batchesF β), (i : Int))) rfl ?_ ?_ (by omega)
  · intro i hi rec
    have hi' : (i : Int) < β 4 := by omega
    dsimp only
    simp (disch := omega) only [zI_of, b4, if_neg, c_batchesOf hB hV hn hi', bind_some', xlet_eq]
    rfl
  · intro rec
    dsimp only
    rw [show ((β 4).toNat : Int) = β 4 by omega]
    simp (disch := omega) only [zI_of, b4, if_pos]
    rfl
theorem minTo_le {z : Int} {f : Nat → Int} : ∀ n, minTo z n f ≤ z
  | 0 => Int.le_refl _
  | n + 1 => by
    have := minTo_le (z := z) (f := f) n
    rw [minTo]
    omega
theorem minTo_ge {z lo : Int} {f : Nat → Int} (hz : lo ≤ z) : ∀ n, (∀ i, i < n → lo ≤ f i) → lo ≤ minTo z n f
  | 0, _ => hz
  | n + 1, h => by
    have := minTo_ge (z := z) (f := f) hz n (fun i hi => h i (by omega))
    have := h n (by omega)
    rw [minTo]
    omega
theorem dueF_bd {β : Nat → Int} (hV : V β) (d : Int) (z : Int) (hz : 0 ≤ z) (k : Nat) (hk : k ≤ (β 9).toNat) : 0 ≤ minTo z k (fun o => if oF β o 4 = 0 ∧ oF β o 1 = d then oF β o 3 else z) ∧ minTo z k (fun o => if oF β o 4 = 0 ∧ oF β o 1 = d then oF β o 3 else z) ≤ z := by
  have vr := hV.2.2.2.2.2.2.2.2.2.2.2.2.2.2
  refine ⟨minTo_ge hz _ fun i hi => ?_, minTo_le _⟩
  have h := (vr i (by omega)).2.2.2.1
  split <;> omega
theorem c_dueOf (hB : Bk σ b β e) (hV : V β) (hn : 4000000 ≤ n) {d : Int} (h1 : 0 ≤ d) (h2 : d < 6) : m_X1_dueOf n b d σ = some (dueF 1440 β d) := by
  have hB' := hB
  have hV' := hV
  obtain ⟨b0, b1, b2, b3, b4, b5, b6, b7, b8, b9, bd, bo, bs, bv, br⟩ := hB
  obtain ⟨v0, v1, v2, v3, v4, v5, v6, v7, v8, v9, vd, vo, vs, vv, vr⟩ := hV
  unfold m_X1_dueOf
  refine loop_eq (β 9).toNat (fun i => (minTo 1440 i (fun o => if oF β o 4 = 0 ∧ oF β o 1 = d then oF β o 3 else 1440), (i : Int))) rfl ?_ ?_ (by omega)
  · intro i hi rec
    have hi' : (i : Int) < β 9 := by omega
    have hr := vr i hi'
    have hx1 := br i hi' 1 (by omega)
    have hx2 := br i hi' 3 (by omega)
    have hb := dueF_bd hV' d 1440 (by omega) i (by omega)
    dsimp only
    rw [minTo]
    generalize minTo 1440 i (fun o => if oF β o 4 = 0 ∧ oF β o 1 = d then oF β o 3 else 1440) = M at hb ⊢
    simp (disch := omega) only [zI_of, b9, if_neg, c_hasOrderN hB' hV' hi', bind_some', xj_eq, xlet_eq, xck_of, tn_cast, hx1, hx2, zmin_of]
    by_cases q : oF β i 4 = 0
    · by_cases q2 : oF β i 1 = d
      · simp [q, q2]
      · have : min M 1440 = M := by omega
        simp [q, q2, this]
    · have : min M 1440 = M := by omega
      simp [q, this]
  · intro rec
    dsimp only
    rw [show ((β 9).toNat : Int) = β 9 by omega]
    simp (disch := omega) only [zI_of, b9, if_pos]
    rfl
theorem c_comesBefore (hB : Bk σ b β e) (hV : V β) {i j : Nat} (hi : (i : Int) < β 9) (hj : (j : Int) < β 9) : m_X1_comesBefore b i j σ = some (if aheadB β i j = true then 1 else 0) := by
  obtain ⟨b0, b1, b2, b3, b4, b5, b6, b7, b8, b9, bd, bo, bs, bv, br⟩ := hB
  obtain ⟨v0, v1, v2, v3, v4, v5, v6, v7, v8, v9, vd, vo, vs, vv, vr⟩ := hV
  have h1 := br i hi 3 (by omega)
  have h2 := br j hj 3 (by omega)
  have g1 := (vr i hi).2.2.2.1
  have g2 := (vr j hj).2.2.2.1
  unfold m_X1_comesBefore
  simp (disch := omega) only [zI_of, xck_of, tn_cast, h1, h2, xlet_eq]
  unfold aheadB
  by_cases q1 : oF β i 3 < oF β j 3
  · rw [if_pos (by omega)]
    simp [q1, xbo_1]
  · rw [if_neg (by omega)]
    by_cases q2 : oF β i 3 = oF β j 3
    · rw [if_pos (by omega)]
      by_cases q3 : j ≤ i
      · rw [if_pos (by omega)]
        simp [q1, q2, xbo_0, show ¬ i < j by omega]
      · rw [if_neg (by omega)]
        simp [q2, xbo_1, show i < j by omega]
    · rw [if_neg (by omega)]
      simp [q1, q2, xbo_0]
theorem c_loavesAheadOf (hB : Bk σ b β e) (hV : V β) (hn : 4000000 ≤ n) {j : Nat} (hj : (j : Int) < β 9) : m_X1_loavesAheadOf n b j σ = some (aheadF β j) := by
  have hB' := hB
  have hV' := hV
  obtain ⟨b0, b1, b2, b3, b4, b5, b6, b7, b8, b9, bd, bo, bs, bv, br⟩ := hB
  obtain ⟨v0, v1, v2, v3, v4, v5, v6, v7, v8, v9, vd, vo, vs, vv, vr⟩ := hV
  have hr2 := vr j hj
  have hy1 := br j hj 1 (by omega)
  unfold m_X1_loavesAheadOf
  refine loop_eq (β 9).toNat (fun i => (sumTo i (fun k => if oF β k 4 = 0 ∧ oF β k 1 = oF β j 1 ∧ aheadB β k j = true then oF β k 2 else 0), (i : Int))) rfl ?_ ?_ (by omega)
  · intro i hi rec
    have hi' : (i : Int) < β 9 := by omega
    have hr := vr i hi'
    have hx1 := br i hi' 1 (by omega)
    have hx2 := br i hi' 2 (by omega)
    dsimp only
    rw [sumTo]
    simp (disch := omega) only [zI_of, b9, if_neg, c_hasOrderN hB' hV' hi', bind_some', xj_eq, xlet_eq, xck_of, tn_cast, hx1, hx2, hy1, c_comesBefore hB' hV' hi' hj]
    by_cases q : oF β i 4 = 0
    · by_cases q2 : oF β i 1 = oF β j 1
      · by_cases q3 : aheadB β i j = true
        · simp [q, q2, q3]
        · simp [q, q2, q3]
      · simp [q, q2]
    · simp [q]
  · intro rec
    dsimp only
    rw [show ((β 9).toNat : Int) = β 9 by omega]
    simp (disch := omega) only [zI_of, b9, if_pos]
    rfl
end CBAK
/-! the reference's questions: its bakery lies in the row k -/
theorem zcmp_of {x y : Int} (h1 : -9223372036854775808 ≤ x) (h2 : x < 9223372036854775808) (h3 : -9223372036854775808 ≤ y) (h4 : y < 9223372036854775808) : zI (zcmp x y) = if x < y then -1 else if x = y then 0 else 1 := by
  have e1 : (Int64.ofInt x).toInt = x := Int64.toInt_ofInt_of_le h1 h2
  have e2 : (Int64.ofInt y).toInt = y := Int64.toInt_ofInt_of_le h3 h4
  unfold zcmp lg_cmp
  by_cases q : y < x
  · rw [if_pos (Int64.lt_iff_toInt_lt.mpr (by rw [e1, e2]; exact q)), if_neg (by omega), if_neg (by omega)]
    rfl
  · rw [if_neg (fun z => q (by have := Int64.lt_iff_toInt_lt.mp z; rw [e1, e2] at this; exact this))]
    by_cases q2 : x = y
    · subst q2
      simp
      rfl
    · rw [if_neg (fun z => q2 (by have := congrArg Int64.toInt z; rw [e1, e2] at this; exact this)), if_pos (by omega)]
      rfl
section RBAK
variable {σ : xS} {k n : Nat}
end RBAK
