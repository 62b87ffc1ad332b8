/-! questions of both: the busiest minute -/
section ASK6
variable {σ : xS} {q b n : Nat} {β : Nat → Int} {e f t : Int} {N : Nat → Nat → Int} {M : NS}
def inN (β : Nat → Int) (N : Nat → Nat → Int) (s : Nat) (m : Int) : Int := sumTo (bl β).length (fun i => if inB (prm β) N s m i = true then 1 else 0)
theorem inN_bd (hP : PV (prm β)) {s : Nat} {m : Int} : 0 ≤ inN β N s m ∧ inN β N s m ≤ 60 := by
  have h := cnt_bd (n := (bl β).length) (fun i => inB (prm β) N s m i)
  have h60 : (bl β).length ≤ 60 := hP.2.2.1
  unfold inN
  omega
theorem endF_ge {P : NP} : ∀ k i, i < k → (if N 3 i ≠ -1 then N 3 i else N 2 i + pT P i 5) ≤ endF P N k
  | 0, i, h => absurd h (Nat.not_lt_zero _)
  | k + 1, i, h => by
    rw [endF]
    by_cases e : i = k
    · subst e; omega
    · have := endF_ge (P := P) k i (by omega)
      omega
theorem start_bd (hP : PV (prm β)) (hF : FN (prm β) N) {s : Nat} (hs : s < 3) {i : Nat} (hi : i < (bl β).length) : N s i = -1 ∨ (0 ≤ N s i ∧ N s i ≤ endF (prm β) N (bl β).length) := by
  have h := endF_ge (P := prm β) (N := N) (bl β).length i hi
  have hFi := hF i hi
  have hT := hP.1 i hi
  have ep : pE (prm β) N i = N 1 i + pT (prm β) i 2 + pT (prm β) i 3 := rfl
  have er : rE (prm β) N i = N 0 i + pT (prm β) i 0 + pT (prm β) i 1 := rfl
  have s3 : s = 0 ∨ s = 1 ∨ s = 2 := by omega
  rcases hFi.2.2 with z | z
  · rw [if_pos (by omega)] at h
    rcases s3 with rfl | rfl | rfl <;> omega
  · rw [if_neg (by omega)] at h
    rcases s3 with rfl | rfl | rfl <;> omega
theorem inN_start (hP : PV (prm β)) {s : Nat} (hs : s < 3) {i : Nat} (hi : i < (bl β).length) (h : N s i ≠ -1) : 1 ≤ inN β N s (N s i) := by
  have hT := hP.1 i hi
  have hb : inB (prm β) N s (N s i) i = true := by
    have s3 : s = 0 ∨ s = 1 ∨ s = 2 := by omega
    rcases s3 with rfl | rfl | rfl
    all_goals (simp [inB, h]; omega)
  unfold inN
  by_cases z : sumTo (bl β).length (fun i_1 => if inB (prm β) N s (N s i) i_1 = true then (1 : Int) else 0) ≤ 0
  · have h1 := sumTo_lt (n := (bl β).length) (f := fun _ => (0 : Int)) (g := fun i_1 => if inB (prm β) N s (N s i) i_1 = true then (1 : Int) else 0) (fun j _ => by split <;> omega) hi (by rw [if_pos hb]; omega)
    rw [sumTo_zero (fun _ _ => rfl)] at h1
    omega
  · omega
/-- where nothing begins, no more are in use than before -/
theorem inN_prev {s : Nat} {m : Int} (h : ∀ i, i < (bl β).length → N s i ≠ m) : inN β N s m ≤ inN β N s (m - 1) := by
  unfold inN
  refine sumTo_le fun i hi => ?_
  have hne := h i hi
  have h3 : inB (prm β) N s m i = true → inB (prm β) N s (m - 1) i = true := by
    simp only [inB, Bool.and_eq_true, decide_eq_true_eq]
    intro z
    exact ⟨⟨z.1.1, by omega⟩, by omega⟩
  by_cases z : inB (prm β) N s m i = true
  · rw [if_pos z, if_pos (h3 z)]; exact Int.le_refl _
  · rw [if_neg z]; split <;> omega
def bsP (β : Nat → Int) (N : Nat → Nat → Int) (s k : Nat) (bm bc : Int) : Prop :=
  (bc = 0 ∧ bm = -1 ∧ ∀ m : Nat, m < k → inN β N s m ≤ 0) ∨ (0 < bc ∧ 0 ≤ bm ∧ bm < k ∧ inN β N s bm = bc ∧ ∀ m : Nat, m < k → inN β N s m ≤ bc ∧ ((m : Int) < bm → inN β N s m < bc))
def bsQ (β : Nat → Int) (N : Nat → Nat → Int) (s k : Nat) (bm bc : Int) : Prop :=
  (bc = 0 ∧ bm = -1 ∧ ∀ i, i < k → N s i ≠ -1 → inN β N s (N s i) ≤ 0) ∨ (0 < bc ∧ (∃ i, i < k ∧ N s i = bm ∧ N s i ≠ -1) ∧ inN β N s bm = bc ∧ ∀ i, i < k → N s i ≠ -1 → inN β N s (N s i) ≤ bc ∧ (inN β N s (N s i) = bc → bm ≤ N s i))
theorem bs_same (hP : PV (prm β)) (hF : FN (prm β) N) {s : Nat} (hs : s < 3) {E : Nat} (hE : (E : Int) = endF (prm β) N (bl β).length) {m1 c1 m2 c2 : Int} (h1 : bsP β N s (E + 1) m1 c1) (h2 : bsQ β N s (bl β).length m2 c2) : m1 = m2 := by
  have toN : ∀ i, i < (bl β).length → N s i ≠ -1 → ∃ m : Nat, (m : Int) = N s i ∧ m < E + 1 := fun i hi h => by
    rcases start_bd hP hF hs hi with z | z
    · exact absurd z h
    · exact ⟨(N s i).toNat, by omega, by omega⟩
  rcases h1 with ⟨a1, a2, a3⟩ | ⟨a1, a2, a3, a4, a5⟩
  · rcases h2 with ⟨b1, b2, b3⟩ | ⟨b1, ⟨i, b2, b3, b4⟩, b5, b6⟩
    · rw [a2, b2]
    · obtain ⟨m, hm, hmE⟩ := toN i b2 b4
      have := a3 m hmE
      rw [hm, b3] at this
      omega
  · have hst : ∃ i, i < (bl β).length ∧ N s i = m1 := by
      refine Classical.byContradiction fun hno => ?_
      have h := inN_prev (β := β) (N := N) (s := s) (m := m1) (fun i hi z => hno ⟨i, hi, z⟩)
      by_cases z : m1 = 0
      · have hz : inN β N s (m1 - 1) = 0 := by
          unfold inN
          exact sumTo_zero (fun i hi => by rw [inB_neg hP hF (by omega) s hs hi]; rfl)
        omega
      · have h5 := (a5 (m1 - 1).toNat (by omega)).2 (by omega)
        rw [show (((m1 - 1).toNat : Nat) : Int) = m1 - 1 by omega] at h5
        omega
    obtain ⟨i, hi, him⟩ := hst
    have hine : N s i ≠ -1 := by omega
    rcases h2 with ⟨b1, b2, b3⟩ | ⟨b1, ⟨j, b2, b3, b4⟩, b5, b6⟩
    · have := b3 i hi hine
      rw [him] at this
      omega
    · have h6 := b6 i hi hine
      rw [him] at h6
      obtain ⟨m, hm, hmE⟩ := toN j b2 b4
      have h5 := a5 m hmE
      rw [hm, b3] at h5
      omega
end ASK6
