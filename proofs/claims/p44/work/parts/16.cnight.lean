/-! the class's night, held against the mathematical one -/
def tmF (β : Nat → Int) (b w : Nat) : Int :=
  match w with
  | 0 => dF β ((bl β).getD b 0) 0
  | 1 => upD (24 * dF β ((bl β).getD b 0) 1) (β 0)
  | 2 => dF β ((bl β).getD b 0) 2
  | 3 => upD (24 * dF β ((bl β).getD b 0) 3) (β 0)
  | 4 => dF β ((bl β).getD b 0) 4
  | 5 => dF β ((bl β).getD b 0) 5
  | _ => dF β ((bl β).getD b 0) 6
def prm (β : Nat → Int) : NP := (tmF β, fun o w => ovF β o w, (bl β).length, (β 5).toNat, β 2, β 3)
theorem slow_bd {m y : Int} (h1 : 0 ≤ m) (h2 : m ≤ 300) (h3 : 10 ≤ y) (h4 : y ≤ 41) : 0 ≤ upD (24 * m) y ∧ upD (24 * m) y ≤ 720 := by
  have h := upD_spec (a := 24 * m) (y := y) (by omega) (by omega)
  refine ⟨h.1, ?_⟩
  rcases Int.lt_or_le 720 (upD (24 * m) y) with q | q
  · have e : (upD (24 * m) y - 1) * 10 ≤ (upD (24 * m) y - 1) * y := Int.mul_le_mul_of_nonneg_left h3 (by omega)
    rw [Int.sub_mul, Int.one_mul] at e
    rw [Int.sub_mul, Int.one_mul] at e
    omega
  · exact q
theorem bl_d {β : Nat → Int} (hV : V β) {b : Nat} (hb : b < (bl β).length) : (((bl β).getD b 0 : Nat) : Int) < β 4 := by
  have h := (bl_len hV).2.1
  rw [List.getD_eq_getElem?_getD, List.getElem?_eq_getElem hb]
  exact h _ (List.getElem_mem hb)
theorem prm_V {β : Nat → Int} (hV : V β) (h60 : allF β ≤ 60) : PV (prm β) := by
  have hbl := bl_len hV
  have hd := @bl_d β hV
  obtain ⟨v0, v1, v2, v3, v4, v5, v6, v7, v8, v9, vd, vo, vs, vv, vr⟩ := hV
  refine ⟨fun b hb => ?_, fun o ho => ?_, by show (bl β).length ≤ 60; omega, by show (β 5).toNat ≤ 4; omega, v2, v3⟩
  · have h := vd ((bl β).getD b 0) (hd hb)
    have s1 := slow_bd (m := dF β ((bl β).getD b 0) 1) (y := β 0) h.2.1.1 h.2.1.2 v0.1 v0.2
    have s3 := slow_bd (m := dF β ((bl β).getD b 0) 3) (y := β 0) h.2.2.2.1.1 h.2.2.2.1.2 v0.1 v0.2
    exact ⟨h.1, s1, h.2.2.1, s3, h.2.2.2.2.1, h.2.2.2.2.2.1, h.2.2.2.2.2.2.1⟩
  · exact vo o (by have : o < (β 5).toNat := ho; omega)
def shF (f v : Int) : Int := if v = -1 then -1 else v + f
def bgF (P : NP) (f : Int) (N : Nat → Nat → Int) (r b : Nat) : Int :=
  match r with
  | 0 => shF f (N 0 b)
  | 1 => if N 0 b = -1 then -1 else N 0 b + pT P b 0 + f
  | 2 => shF f (N 1 b)
  | 3 => if N 1 b = -1 then -1 else N 1 b + pT P b 2 + f
  | 4 => shF f (N 2 b)
  | _ => if N 2 b = -1 then -1 else N 2 b + pT P b 5 + f
/-- bounds -/
def NB (P : NP) (N : Nat → Nat → Int) : Prop := (∀ b, b < pn P → ∀ r, r ≤ 3 → -1 ≤ N r b ∧ N r b ≤ 200000) ∧ (∀ b, b < pn P → -1 ≤ N 4 b ∧ N 4 b < pv P) ∧ (∀ o, o < pv P → (20 ≤ N 5 o ∧ N 5 o ≤ 300) ∧ (-1 ≤ N 6 o ∧ N 6 o ≤ 200000) ∧ (0 ≤ N 7 o ∧ N 7 o ≤ 100000000))
/-- the rows of the class's night at q (f: the start) -/
def RN (σ : xS) (q : Nat) (β : Nat → Int) (f : Int) (N : Nat → Nat → Int) : Prop :=
  σ q 0 = f ∧ σ q 2 = ((bl β).length : Int) ∧ (∀ b, b < (bl β).length → σ (q + 1) b = lG (bl β) b) ∧
  (∀ b, b < (bl β).length → ∀ r, r < 6 → σ (q + 4 + r) b = bgF (prm β) f N r b) ∧
  (∀ b, b < (bl β).length → σ (q + 2) b = N 4 b ∧ σ (q + 10) b = (if N 0 b = -1 then -1 else rE (prm β) N b + f) ∧ σ (q + 11) b = (if N 1 b = -1 then -1 else pE (prm β) N b + f) ∧ σ (q + 12) b = shF f (N 3 b)) ∧
  (∀ o : Nat, (o : Int) < β 5 → σ (q + 15) o = N 5 o ∧ σ (q + 16) o = shF f (N 6 o) ∧ σ (q + 17) o = N 7 o)
def RQ (σ : xS) (k j a : Nat) (Q : List Nat) : Prop := σ k j = (Q.length : Int) ∧ ∀ i, i < Q.length → σ a i = lG Q i
def RC (σ : xS) (q : Nat) (β : Nat → Int) (f : Int) (M : NS) : Prop := RN σ q β f M.1 ∧ RQ σ q 11 (q + 13) M.2.1 ∧ RQ σ q 13 (q + 14) M.2.2.1 ∧ σ q 9 = (M.2.2.2 : Int)
/-- what a night's method leaves alone -/
def nfr (q : Nat) (σ σ' : xS) : Prop := ∀ k j, (k < q ∨ q + 21 ≤ k ∨ (k = q ∧ j = 1)) → σ' k j = σ k j
def nfb (q : Nat) (σ σ' : xS) : Prop := ∀ k j, (k < q ∨ q + 21 ≤ k) → σ' k j = σ k j
section CN
variable {σ : xS} {q b n : Nat} {β : Nat → Int} {e f t : Int} {N : Nat → Nat → Int} {M : NS}
/-- whether a batch is in a mixer, with a baker, on a shelf -/
def inB (P : NP) (N : Nat → Nat → Int) (s : Nat) (t : Int) (b : Nat) : Bool := decide (N s b ≠ -1) && decide (N s b ≤ t) && decide (t < N s b + (match s with | 0 => pT P b 0 | 1 => pT P b 2 | _ => pT P b 5))
theorem isIn_core {f x T m : Int} (hf : 0 ≤ f ∧ f ≤ 1439) (hx : -1 ≤ x ∧ x ≤ 200000) (hT : 1 ≤ T ∧ T ≤ 120) (hm : -2147483648 ≤ m ∧ m < 2147483648) : (if zI (shF f x) = -1 then xbo 0 (some (0 : Int)) else if m < zI (shF f x) then xbo 0 (some 0) else if zI (if x = -1 then -1 else x + T + f) ≤ m then xbo 0 (some 0) else xbo 1 (some 1)) = some (if (decide (x ≠ -1) && decide (x ≤ m - f) && decide (m - f < x + T)) = true then 1 else 0) := by
  by_cases c : x = -1
  · have e2 : shF f x = -1 := if_pos c
    rw [e2, zI_of (by omega) (by omega), if_pos rfl]
    simp [c, xbo_0]
  · have e2 : shF f x = x + f := if_neg c
    rw [e2, if_neg c, zI_of (n := x + f) (by omega) (by omega), zI_of (n := x + T + f) (by omega) (by omega), if_neg (by omega)]
    by_cases c2 : m < x + f
    · rw [if_pos c2]
      simp [xbo_0, show ¬ x ≤ m - f by omega]
    · rw [if_neg c2]
      by_cases c3 : x + T + f ≤ m
      · rw [if_pos c3]
        simp [xbo_0, show ¬ m - f < x + T by omega]
      · rw [if_neg c3]
        simp [xbo_1, c, show x ≤ m - f by omega, show m - f < x + T by omega]
theorem c_isIn (hR : RN σ q β f N) (hP : PV (prm β)) (hN : NB (prm β) N) (hf : 0 ≤ f ∧ f ≤ 1439) {m : Int} (hm : -2147483648 ≤ m ∧ m < 2147483648) {i : Nat} (hi : i < (bl β).length) {s : Nat} (hs : s < 3) : m_X4_isIn q i (2 * s : Nat) m σ = some (if inB (prm β) N s (m - f) i = true then 1 else 0) := by
  obtain ⟨r0, r2, rd, rb, rc, ro⟩ := hR
  have h1 := rb i hi (2 * s) (by omega)
  have h2 := rb i hi (2 * s + 1) (by omega)
  have hT := hP.1 i hi
  have h60 : (bl β).length ≤ 60 := hP.2.2.1
  have hb := hN.1 i hi s (by omega)
  unfold m_X4_isIn
  have e1 : ((2 * s : Nat) : Int) + 1 = ((2 * s + 1 : Nat) : Int) := by omega
  simp (disch := omega) only [zI_of, xck_of, tn_cast, xlet_eq, xj_eq, e1]
  rw [h1, h2]
  have hs3 : s = 0 ∨ s = 1 ∨ s = 2 := by omega
  rcases hs3 with rfl | rfl | rfl
  · exact isIn_core hf (by omega) (by omega) hm
  · exact isIn_core hf (by omega) (by omega) hm
  · exact isIn_core hf (by omega) (by omega) hm
theorem c_inUse (hR : RN σ q β f N) (hP : PV (prm β)) (hN : NB (prm β) N) (hn : 4000000 ≤ n) (hf : 0 ≤ f ∧ f ≤ 1439) {m : Int} (hm : -2147483648 ≤ m ∧ m < 2147483648) {s : Nat} (hs : s < 3) : m_X4_inUse n q (2 * s : Nat) m σ = some (sumTo (bl β).length (fun i => if inB (prm β) N s (m - f) i = true then 1 else 0)) := by
  have r2 := hR.2.1
  have h60 : (bl β).length ≤ 60 := hP.2.2.1
  unfold m_X4_inUse
  refine loop_eq (bl β).length (fun i => (sumTo i (fun i => if inB (prm β) N s (m - f) i = true then 1 else 0), (i : Int))) rfl ?_ ?_ (by omega)
  · intro i hi rec
    dsimp only
    rw [sumTo]
    simp (disch := omega) only [zI_of, r2, if_neg, c_isIn hR hP hN hf hm hi hs, bind_some', xlet_eq]
    by_cases c : inB (prm β) N s (m - f) i = true
    · simp [c, zI_eq]
    · simp [c, zI_eq]
  · intro rec
    dsimp only
    simp (disch := omega) only [zI_of, r2, if_pos]
theorem c_shelvesTaken (hR : RN σ q β f N) (hP : PV (prm β)) (hN : NB (prm β) N) (hn : 4000000 ≤ n) (hf : 0 ≤ f ∧ f ≤ 1439) {m : Int} (hm : -2147483648 ≤ m ∧ m < 2147483648) {o : Nat} (ho : o < 4) : m_X4_shelvesTaken n q o m σ = some (used (prm β) N o (m - f)) := by
  have r2 := hR.2.1
  have h60 : (bl β).length ≤ 60 := hP.2.2.1
  have hv4 : pv (prm β) ≤ 4 := hP.2.2.2.1
  have c4 : ∀ i, i < (bl β).length → m_X4_isIn q i 4 m σ = some (if inB (prm β) N 2 (m - f) i = true then 1 else 0) := fun i hi => c_isIn hR hP hN hf hm hi (s := 2) (by omega)
  unfold m_X4_shelvesTaken
  refine loop_eq (bl β).length (fun i => (sumTo i (fun i => if usedB (prm β) N o (m - f) i = true then 1 else 0), (i : Int))) rfl ?_ ?_ (by omega)
  · intro i hi rec
    have h2 := (hR.2.2.2.2.1 i hi).1
    have hb := hN.2.1 i hi
    dsimp only
    rw [sumTo]
    have hu : usedB (prm β) N o (m - f) i = (decide (N 4 i = (o : Int)) && inB (prm β) N 2 (m - f) i) := by
      simp [usedB, inB, Bool.and_assoc]
    rw [hu]
    simp (disch := omega) only [zI_of, r2, if_neg, xck_of, tn_cast, h2, c4 i hi, bind_some', xlet_eq, xj_eq]
    by_cases c : N 4 i = (o : Int)
    · by_cases c2 : inB (prm β) N 2 (m - f) i = true
      · simp [c, c2, zI_eq]
      · simp [c, c2, zI_eq]
    · simp [c, zI_eq]
  · intro rec
    dsimp only
    simp (disch := omega) only [zI_of, r2, if_pos]
    rfl
end CN
