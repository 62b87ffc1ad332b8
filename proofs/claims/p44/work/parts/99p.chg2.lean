/-! changes: the reference's rows of undo, the class's history -/
section CHG2
variable {σ τ : xS} {n m : Nat} {γ δ : Nat → Int}
/-- how many recorded changes stay when one more comes; how many fall out -/
def mnF (m : Nat) : Nat := if m = 12 then 11 else m
def shM (m : Nat) : Nat := if m = 12 then 1 else 0
theorem mn_sh (h : m ≤ 12) : mnF m + shM m = m ∧ mnF m ≤ 11 := by
  unfold mnF shM
  split <;> omega
/-- what a record leaves of the class's history -/
def CHr (σ τ : xS) (m : Nat) (K I B : Int) : Prop := τ 114 3 = (mnF m : Int) + 1 ∧ (∀ i, i < mnF m → τ 115 i = σ 115 (i + shM m) ∧ τ 116 i = σ 116 (i + shM m) ∧ τ 117 i = σ 117 (i + shM m)) ∧ (τ 115 (mnF m) = K ∧ τ 116 (mnF m) = I ∧ τ 117 (mnF m) = B) ∧ ∀ k j, ¬ (115 ≤ k ∧ k ≤ 117) → ¬ (k = 114 ∧ j = 3) → τ k j = σ k j
theorem c_dropOldest : OK (m_X3_dropOldest σ) (fun τ => τ 114 3 = 11 ∧ (∀ i, i < 11 → τ 115 i = σ 115 (i + 1) ∧ τ 116 i = σ 116 (i + 1) ∧ τ 117 i = σ 117 (i + 1)) ∧ ∀ k j, ¬ (115 ≤ k ∧ k ≤ 117) → ¬ (k = 114 ∧ j = 3) → τ k j = σ k j) := by
  unfold m_X3_dropOldest
  have k3 : (xput σ 114 3 11) 114 3 = 11 := xput_eq
  have k0 : ∀ k j, ¬ (k = 114 ∧ j = 3) → (xput σ 114 3 11) k j = σ k j := fun k j h => xput_ne h
  rw [xlet_eq]
  generalize xput σ 114 3 11 = s1 at k3 k0 ⊢
  have q3 : ∀ s : xS, s 114 3 = 11 → ∀ a, a ≠ 114 → (xcpy s a a 1 0 11) 114 3 = 11 := fun s h a ha => by
    simp only [xcpy]
    rw [if_neg (by omega)]
    exact h
  have q0 : ∀ (s : xS) (a : Nat), (∀ i, i < 11 → (xcpy s a a 1 0 11) a i = s a (i + 1)) ∧ ∀ k j, k ≠ a → (xcpy s a a 1 0 11) k j = s k j := fun s a => ⟨fun i hi => by
    simp only [xcpy, if_true, va_cpy, show (1 : Int).toNat = 1 from rfl, show (0 : Int).toNat = 0 from rfl, show (11 : Int).toNat = 11 from rfl]
    rw [if_pos (by omega), Nat.sub_zero, Nat.add_comm 1 i], fun k j h => by
    simp only [xcpy]
    rw [if_neg h]⟩
  rw [k3, zI_of (n := 11) (by omega) (by omega), xcc_of (by omega) (by omega) (by omega) (by omega) (by omega), xlet_eq]
  have a1 := q0 s1 115
  have a3 := q3 s1 k3 115 (by omega)
  generalize xcpy s1 115 115 1 0 11 = s2 at a1 a3 ⊢
  rw [a3, zI_of (n := 11) (by omega) (by omega), xcc_of (by omega) (by omega) (by omega) (by omega) (by omega), xlet_eq]
  have b1 := q0 s2 116
  have b3 := q3 s2 a3 116 (by omega)
  generalize xcpy s2 116 116 1 0 11 = s3 at b1 b3 ⊢
  rw [b3, zI_of (n := 11) (by omega) (by omega), xcc_of (by omega) (by omega) (by omega) (by omega) (by omega), xlet_eq]
  have c1 := q0 s3 117
  have c3 := q3 s3 b3 117 (by omega)
  generalize xcpy s3 117 117 1 0 11 = s4 at c1 c3 ⊢
  refine OK_some ⟨c3, fun i hi => ⟨?_, ?_, ?_⟩, fun k j h1 h2 => ?_⟩
  · rw [c1.2 _ _ (by omega), b1.2 _ _ (by omega), a1.1 i hi]
    exact k0 _ _ (by omega)
  · rw [c1.2 _ _ (by omega), b1.1 i hi, a1.2 _ _ (by omega)]
    exact k0 _ _ (by omega)
  · rw [c1.1 i hi, b1.2 _ _ (by omega), a1.2 _ _ (by omega)]
    exact k0 _ _ (by omega)
  · rw [c1.2 _ _ (by omega), b1.2 _ _ (by omega), a1.2 _ _ (by omega)]
    exact k0 _ _ h2
theorem c_add {K I B : Int} (hm : m ≤ 12) (h3 : σ 114 3 = (m : Int)) : OK (m_X3_add K I B σ) (fun τ => CHr σ τ m K I B) := by
  have hj : ∀ s : xS, s 114 3 = (mnF m : Int) → (∀ i, i < mnF m → s 115 i = σ 115 (i + shM m) ∧ s 116 i = σ 116 (i + shM m) ∧ s 117 i = σ 117 (i + shM m)) → (∀ k j, ¬ (115 ≤ k ∧ k ≤ 117) → ¬ (k = 114 ∧ j = 3) → s k j = σ k j) → OK ((fun (q4 : xS) => xck (zI (q4 114 3)) 12 <| xlet (xput q4 115 (zI (q4 114 3)).toNat K) fun s5 => xck (zI (s5 114 3)) 12 <| xlet (xput s5 116 (zI (s5 114 3)).toNat I) fun s6 => xck (zI (s6 114 3)) 12 <| xlet (xput s6 117 (zI (s6 114 3)).toNat B) fun s7 => xlet (xput s7 114 3 ((s7 114 3) + 1)) fun s8 => some s8) s) (fun τ => CHr σ τ m K I B) := by
    intro s g3 gi gf
    have hmm := mn_sh hm
    unfold CHr
    generalize mnF m = M at g3 gi hmm ⊢
    have z : zI (M : Int) = (M : Int) := zI_of (by omega) (by omega)
    dsimp only
    rw [g3, z, xck_of (by omega) (by omega), xlet_eq, tn_cast]
    have e1 : (xput s 115 M K) 114 3 = (M : Int) := by rw [xput_ne (by omega)]; exact g3
    rw [e1, z, xck_of (by omega) (by omega), xlet_eq, tn_cast]
    have e2 : (xput (xput s 115 M K) 116 M I) 114 3 = (M : Int) := by rw [xput_ne (by omega)]; exact e1
    rw [e2, z, xck_of (by omega) (by omega), xlet_eq, tn_cast]
    have e3 : (xput (xput (xput s 115 M K) 116 M I) 117 M B) 114 3 = (M : Int) := by rw [xput_ne (by omega)]; exact e2
    rw [xlet_eq, e3]
    refine OK_some ⟨?_, fun i hi => ⟨?_, ?_, ?_⟩, ⟨?_, ?_, ?_⟩, fun k j h1 h2 => ?_⟩
    · rw [xput_eq]
    · rw [xput_ne (by omega), xput_ne (by omega), xput_ne (by omega), xput_ne (by omega)]
      exact (gi i hi).1
    · rw [xput_ne (by omega), xput_ne (by omega), xput_ne (by omega), xput_ne (by omega)]
      exact (gi i hi).2.1
    · rw [xput_ne (by omega), xput_ne (by omega), xput_ne (by omega), xput_ne (by omega)]
      exact (gi i hi).2.2
    · rw [xput_ne (by omega), xput_ne (by omega), xput_ne (by omega), xput_eq]
    · rw [xput_ne (by omega), xput_ne (by omega), xput_eq]
    · rw [xput_ne (by omega), xput_eq]
    · rw [xput_ne (by omega), xput_ne (by omega), xput_ne (by omega), xput_ne (by omega)]
      exact gf k j h1 h2
  unfold m_X3_add
  rw [xj_eq, h3, zI_of (n := (m : Int)) (by omega) (by omega)]
  by_cases c : m = 12
  · rw [if_pos (by omega)]
    refine OK_bind c_dropOldest fun s h => ?_
    have hmn : mnF m = 11 := if_pos c
    have hsh : shM m = 1 := if_pos c
    exact hj s (by rw [hmn]; exact h.1) (fun i hi => by rw [hsh]; exact h.2.1 i (by omega)) h.2.2
  · rw [if_neg (by omega)]
    have hmn : mnF m = m := if_neg c
    have hsh : shM m = 0 := if_neg c
    exact hj σ (by rw [hmn]; exact h3) (fun i hi => by rw [hsh]; exact ⟨rfl, rfl, rfl⟩) (fun _ _ _ _ => rfl)
end CHG2
