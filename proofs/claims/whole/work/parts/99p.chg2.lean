/-! changes: the reference's rows of undo, the class's history -/
section CHG2
variable {σ τ : xS} {n m : Nat} {γ δ : Nat → Int}
/-- how many recorded changes stay when one more comes; how many fall out -/
def mnF (m : Nat) : Nat := if m = 12 then 11 else m
def shM (m : Nat) : Nat := if m = 12 then 1 else 0
theorem mn_sh (h : m ≤ 12) : mnF m + shM m = m ∧ mnF m ≤ 11 := by
  unfold mnF shM
  split <;> omega
theorem ix289 {a b : Nat} (ha : a ≤ 12) (hb : b ≤ 300) : zI (289 * (a : Int) + (b : Int)) = ((289 * a + b : Nat) : Int) := by
  rw [zI_of (by omega) (by omega)]
  omega
theorem r_recTail (hm : m ≤ 11) (h4 : σ 184 4 = (m : Int)) (hn : 4000000 ≤ n) :
    OK (loopF (fun rec5 (t4 : Int × xS) => if 289 ≤ (zI t4.1) then xlet (xput t4.2 184 4 ((t4.2 184 4) + 1)) fun s8 => xlet (xput s8 184 5 0) fun s9 => some s9 else xck (zI t4.1) 289 <| xck (zI ((289 * (t4.2 184 4)) + t4.1)) 3468 <| xlet (xput t4.2 188 (zI ((289 * (t4.2 184 4)) + t4.1)).toNat (t4.2 185 (zI t4.1).toNat)) fun s10 => xlet (t4.1 + 1) fun v11 => rec5 (v11, s10)) n (0, σ))
    (fun τ => τ 184 4 = (m : Int) + 1 ∧ τ 184 5 = 0 ∧ (∀ j, τ 188 j = if 289 * m ≤ j ∧ j < 289 * m + 289 then σ 185 (j - 289 * m) else σ 188 j) ∧ ∀ k j, k ≠ 188 → ¬ (k = 184 ∧ (j = 4 ∨ j = 5)) → τ k j = σ k j) := by
  refine loop_for 289 (fun i (t : Int × xS) => t.1 = (i : Int) ∧ (∀ j, t.2 188 j = if 289 * m ≤ j ∧ j < 289 * m + i then σ 185 (j - 289 * m) else σ 188 j) ∧ ∀ k j, k ≠ 188 → t.2 k j = σ k j) ?_ ?_ (by omega) ⟨rfl, fun j => by rw [if_neg (by omega)], fun _ _ _ => rfl⟩
  · rintro i t hi ⟨g1, g2, g3⟩ rec hrec
    have e4 : t.2 184 4 = (m : Int) := by rw [g3 _ _ (by omega)]; exact h4
    have e5 : t.2 185 i = σ 185 i := g3 _ _ (by omega)
    try dsimp only
    rw [g1, e4, ix289 (by omega) (by omega), zI_of (n := (i : Int)) (by omega) (by omega), if_neg (by omega), xck_of (by omega) (by omega), xck_of (by omega) (by omega), tn_cast, tn_cast, xlet_eq, xlet_eq, e5]
    refine hrec _ ⟨by show (i : Int) + 1 = _; omega, fun j => ?_, fun k j hk => ?_⟩
    · show xput t.2 188 (289 * m + i) (σ 185 i) 188 j = _
      by_cases c : j = 289 * m + i
      · subst c
        rw [xput_eq, if_pos (by omega), show 289 * m + i - 289 * m = i by omega]
      · rw [xput_ne (by omega), g2 j]
        by_cases d : 289 * m ≤ j ∧ j < 289 * m + i
        · rw [if_pos d, if_pos (by omega)]
        · rw [if_neg d, if_neg (by omega)]
    · show xput t.2 188 (289 * m + i) (σ 185 i) k j = _
      rw [xput_ne (by omega)]
      exact g3 k j hk
  · rintro t ⟨g1, g2, g3⟩ rec
    try dsimp only
    have e4 : t.2 184 4 = (m : Int) := by rw [g3 _ _ (by omega)]; exact h4
    rw [g1, zI_of (n := ((289 : Nat) : Int)) (by omega) (by omega), if_pos (by omega), xlet_eq, xlet_eq, e4]
    refine OK_some ⟨by rw [xput_ne (by omega), xput_eq], xput_eq, fun j => by rw [xput_ne (by omega), xput_ne (by omega)]; exact g2 j, fun k j h1 h2 => by rw [xput_ne (by omega), xput_ne (by omega)]; exact g3 k j h1⟩
/-- what a record leaves of the reference's rows -/
def RCr (σ τ : xS) (m : Nat) : Prop := τ 184 4 = (mnF m : Int) + 1 ∧ τ 184 5 = 0 ∧ (∀ i j, i < mnF m → j < 289 → τ 188 (289 * i + j) = σ 188 (289 * (i + shM m) + j)) ∧ (∀ j, j < 289 → τ 188 (289 * mnF m + j) = σ 185 j) ∧ ∀ k j, k ≠ 188 → ¬ (k = 184 ∧ (j = 4 ∨ j = 5)) → τ k j = σ k j
theorem r_records (hm : m ≤ 12) (h4 : σ 184 4 = (m : Int)) (hn : 4000000 ≤ n) : OK (m_X13_records n σ) (fun τ => RCr σ τ m) := by
  unfold m_X13_records
  rw [xj_eq, h4, zI_of (n := (m : Int)) (by omega) (by omega)]
  by_cases c : m = 12
  · rw [if_pos (by omega), xlet_eq]
    have hmn : mnF m = 11 := if_pos c
    have hsh : shM m = 1 := if_pos c
    have k4 : (xput σ 184 4 ((m : Int) - 1)) 184 4 = ((11 : Nat) : Int) := by rw [xput_eq]; omega
    have k0 : ∀ k j, ¬ (k = 184 ∧ j = 4) → (xput σ 184 4 ((m : Int) - 1)) k j = σ k j := fun k j h => xput_ne h
    generalize xput σ 184 4 ((m : Int) - 1) = s13 at k4 k0 ⊢
    refine loop_for (289 * 11) (fun i (t : Int × xS) => t.1 = (i : Int) ∧ (∀ j, t.2 188 j = if j < i then σ 188 (j + 289) else σ 188 j) ∧ ∀ k j, k ≠ 188 → t.2 k j = s13 k j) ?_ ?_ (by omega) ⟨rfl, fun j => by rw [if_neg (by omega)]; exact k0 _ _ (by omega), fun _ _ _ => rfl⟩
    · rintro i t hi ⟨g1, g2, g3⟩ rec hrec
      have e4 : t.2 184 4 = ((11 : Nat) : Int) := by rw [g3 _ _ (by omega)]; exact k4
      try dsimp only
      rw [g1, e4, zI_of (n := 289 * ((11 : Nat) : Int)) (by omega) (by omega), zI_of (n := (i : Int)) (by omega) (by omega), if_neg (by omega), zI_of (n := (i : Int) + 289) (by omega) (by omega), xck_of (by omega) (by omega), xck_of (by omega) (by omega), xlet_eq, xlet_eq, tn_cast, show ((i : Int) + 289).toNat = i + 289 by omega]
      refine hrec _ ⟨by show (i : Int) + 1 = _; omega, fun j => ?_, fun k j hk => ?_⟩
      · show xput t.2 188 i (t.2 188 (i + 289)) 188 j = _
        by_cases d : j = i
        · subst d
          rw [xput_eq, if_pos (by omega), g2, if_neg (by omega)]
        · rw [xput_ne (by omega), g2 j]
          by_cases d2 : j < i
          · rw [if_pos d2, if_pos (by omega)]
          · rw [if_neg d2, if_neg (by omega)]
      · show xput t.2 188 i _ k j = _
        rw [xput_ne (by omega)]
        exact g3 k j hk
    · rintro t ⟨g1, g2, g3⟩ rec
      have e4 : t.2 184 4 = ((11 : Nat) : Int) := by rw [g3 _ _ (by omega)]; exact k4
      try dsimp only
      rw [g1, e4, zI_of (n := 289 * ((11 : Nat) : Int)) (by omega) (by omega), zI_of (n := ((289 * 11 : Nat) : Int)) (by omega) (by omega), if_pos (by omega)]
      refine OK_mono (r_recTail (σ := t.2) (m := 11) (by omega) e4 hn) fun τ h => ?_
      obtain ⟨w1, w2, w3, w4⟩ := h
      refine ⟨by rw [w1, hmn], w2, fun i j hi hj => ?_, fun j hj => ?_, fun k j c1 c2 => ?_⟩
      · rw [hmn] at hi
        rw [w3, if_neg (by omega), g2, if_pos (by omega), hsh, show 289 * i + j + 289 = 289 * (i + 1) + j by omega]
      · rw [hmn, w3, if_pos (by omega), g3 _ _ (by omega), k0 _ _ (by omega), show 289 * 11 + j - 289 * 11 = j by omega]
      · rw [w4 k j c1 c2, g3 _ _ c1, k0 _ _ (by omega)]
  · rw [if_neg (by omega)]
    have hmn : mnF m = m := if_neg c
    have hsh : shM m = 0 := if_neg c
    refine OK_mono (r_recTail (m := m) (by omega) h4 hn) fun τ h => ?_
    obtain ⟨w1, w2, w3, w4⟩ := h
    refine ⟨by rw [w1, hmn], w2, fun i j hi hj => ?_, fun j hj => ?_, w4⟩
    · rw [hmn] at hi
      rw [w3, if_neg (by omega), hsh]
      rfl
    · rw [hmn, w3, if_pos (by omega), show 289 * m + j - 289 * m = j by omega]
theorem r_sets {c : Nat} {v : Int} (hc : c < 289) (hm : m ≤ 12) (h4 : σ 184 4 = (m : Int)) (hn : 4000000 ≤ n) : OK (m_X13_sets n (c : Int) v σ) (fun x => x.1 = σ 185 c ∧ ∃ υ, RCr σ υ m ∧ x.2 = xput υ 185 c v) := by
  unfold m_X13_sets
  refine OK_bind (r_records hm h4 hn) (fun s h => ?_)
  rw [zI_of (n := (c : Int)) (by omega) (by omega), xck_of (by omega) (by omega), xlet_eq, xck_of (by omega) (by omega), xlet_eq, tn_cast]
  refine OK_some ⟨?_, s, h, rfl⟩
  show s 185 c = _
  exact h.2.2.2.2 _ _ (by omega) (by omega)
/-- what a record leaves of the class's history -/
def CHr (σ τ : xS) (m : Nat) (K I B : Int) : Prop := τ 114 3 = (mnF m : Int) + 1 ∧ (∀ i, i < mnF m → τ 115 i = σ 115 (i + shM m) ∧ τ 116 i = σ 116 (i + shM m) ∧ τ 117 i = σ 117 (i + shM m)) ∧ (τ 115 (mnF m) = K ∧ τ 116 (mnF m) = I ∧ τ 117 (mnF m) = B) ∧ ∀ k j, ¬ (115 ≤ k ∧ k ≤ 117) → ¬ (k = 114 ∧ j = 3) → τ k j = σ k j
theorem c_dropOldest : OK (m_X3_dropOldest σ) (fun τ => τ 114 3 = 11 ∧ (∀ i, i < 11 → τ 115 i = σ 115 (i + 1) ∧ τ 116 i = σ 116 (i + 1) ∧ τ 117 i = σ 117 (i + 1)) ∧ ∀ k j, ¬ (115 ≤ k ∧ k ≤ 117) → ¬ (k = 114 ∧ j = 3) → τ k j = σ k j) := by
  unfold m_X3_dropOldest
  have k3 : (xput σ 114 3 11) 114 3 = 11 := xput_eq
  have k0 : ∀ k j, ¬ (k = 114 ∧ j = 3) → (xput σ 114 3 11) k j = σ k j := fun k j h => xput_ne h
  rw [xlet_eq]
  generalize xput σ 114 3 11 = s1 at k3 k0 ⊢
  have q3 : ∀ s : xS, s 114 3 = 11 → ∀ a, a ≠ 114 → (xcpy s a a 1 0 11) 114 3 = 11 := fun s h a ha => by
    simp only [xcpy]
    rw [if_neg (by omega)]
    exact h
  have q0 : ∀ (s : xS) (a : Nat), (∀ i, i < 11 → (xcpy s a a 1 0 11) a i = s a (i + 1)) ∧ ∀ k j, k ≠ a → (xcpy s a a 1 0 11) k j = s k j := fun s a => ⟨fun i hi => by
    simp only [xcpy, if_true, va_cpy, show (1 : Int).toNat = 1 from rfl, show (0 : Int).toNat = 0 from rfl, show (11 : Int).toNat = 11 from rfl]
    rw [if_pos (by omega), Nat.sub_zero, Nat.add_comm 1 i], fun k j h => by
    simp only [xcpy]
    rw [if_neg h]⟩
  rw [k3, zI_of (n := 11) (by omega) (by omega), xcc_of (by omega) (by omega) (by omega) (by omega) (by omega), xlet_eq]
  have a1 := q0 s1 115
  have a3 := q3 s1 k3 115 (by omega)
  generalize xcpy s1 115 115 1 0 11 = s2 at a1 a3 ⊢
  rw [a3, zI_of (n := 11) (by omega) (by omega), xcc_of (by omega) (by omega) (by omega) (by omega) (by omega), xlet_eq]
  have b1 := q0 s2 116
  have b3 := q3 s2 a3 116 (by omega)
  generalize xcpy s2 116 116 1 0 11 = s3 at b1 b3 ⊢
  rw [b3, zI_of (n := 11) (by omega) (by omega), xcc_of (by omega) (by omega) (by omega) (by omega) (by omega), xlet_eq]
  have c1 := q0 s3 117
  have c3 := q3 s3 b3 117 (by omega)
  generalize xcpy s3 117 117 1 0 11 = s4 at c1 c3 ⊢
  refine OK_some ⟨c3, fun i hi => ⟨?_, ?_, ?_⟩, fun k j h1 h2 => ?_⟩
  · rw [c1.2 _ _ (by omega), b1.2 _ _ (by omega), a1.1 i hi]
    exact k0 _ _ (by omega)
  · rw [c1.2 _ _ (by omega), b1.1 i hi, a1.2 _ _ (by omega)]
    exact k0 _ _ (by omega)
  · rw [c1.1 i hi, b1.2 _ _ (by omega), a1.2 _ _ (by omega)]
    exact k0 _ _ (by omega)
  · rw [c1.2 _ _ (by omega), b1.2 _ _ (by omega), a1.2 _ _ (by omega)]
    exact k0 _ _ h2
theorem c_add {K I B : Int} (hm : m ≤ 12) (h3 : σ 114 3 = (m : Int)) : OK (m_X3_add K I B σ) (fun τ => CHr σ τ m K I B) := by
  have hj : ∀ s : xS, s 114 3 = (mnF m : Int) → (∀ i, i < mnF m → s 115 i = σ 115 (i + shM m) ∧ s 116 i = σ 116 (i + shM m) ∧ s 117 i = σ 117 (i + shM m)) → (∀ k j, ¬ (115 ≤ k ∧ k ≤ 117) → ¬ (k = 114 ∧ j = 3) → s k j = σ k j) → OK ((fun (q4 : xS) => xck (zI (q4 114 3)) 12 <| xlet (xput q4 115 (zI (q4 114 3)).toNat K) fun s5 => xck (zI (s5 114 3)) 12 <| xlet (xput s5 116 (zI (s5 114 3)).toNat I) fun s6 => xck (zI (s6 114 3)) 12 <| xlet (xput s6 117 (zI (s6 114 3)).toNat B) fun s7 => xlet (xput s7 114 3 ((s7 114 3) + 1)) fun s8 => some s8) s) (fun τ => CHr σ τ m K I B) := by
    intro s g3 gi gf
    have hmm := mn_sh hm
    unfold CHr
    generalize mnF m = M at g3 gi hmm ⊢
    have z : zI (M : Int) = (M : Int) := zI_of (by omega) (by omega)
    dsimp only
    rw [g3, z, xck_of (by omega) (by omega), xlet_eq, tn_cast]
    have e1 : (xput s 115 M K) 114 3 = (M : Int) := by rw [xput_ne (by omega)]; exact g3
    rw [e1, z, xck_of (by omega) (by omega), xlet_eq, tn_cast]
    have e2 : (xput (xput s 115 M K) 116 M I) 114 3 = (M : Int) := by rw [xput_ne (by omega)]; exact e1
    rw [e2, z, xck_of (by omega) (by omega), xlet_eq, tn_cast]
    have e3 : (xput (xput (xput s 115 M K) 116 M I) 117 M B) 114 3 = (M : Int) := by rw [xput_ne (by omega)]; exact e2
    rw [xlet_eq, e3]
    refine OK_some ⟨?_, fun i hi => ⟨?_, ?_, ?_⟩, ⟨?_, ?_, ?_⟩, fun k j h1 h2 => ?_⟩
    · rw [xput_eq]
    · rw [xput_ne (by omega), xput_ne (by omega), xput_ne (by omega), xput_ne (by omega)]
      exact (gi i hi).1
    · rw [xput_ne (by omega), xput_ne (by omega), xput_ne (by omega), xput_ne (by omega)]
      exact (gi i hi).2.1
    · rw [xput_ne (by omega), xput_ne (by omega), xput_ne (by omega), xput_ne (by omega)]
      exact (gi i hi).2.2
    · rw [xput_ne (by omega), xput_ne (by omega), xput_ne (by omega), xput_eq]
    · rw [xput_ne (by omega), xput_ne (by omega), xput_eq]
    · rw [xput_ne (by omega), xput_eq]
    · rw [xput_ne (by omega), xput_ne (by omega), xput_ne (by omega), xput_ne (by omega)]
      exact gf k j h1 h2
  unfold m_X3_add
  rw [xj_eq, h3, zI_of (n := (m : Int)) (by omega) (by omega)]
  by_cases c : m = 12
  · rw [if_pos (by omega)]
    refine OK_bind c_dropOldest fun s h => ?_
    have hmn : mnF m = 11 := if_pos c
    have hsh : shM m = 1 := if_pos c
    exact hj s (by rw [hmn]; exact h.1) (fun i hi => by rw [hsh]; exact h.2.1 i (by omega)) h.2.2
  · rw [if_neg (by omega)]
    have hmn : mnF m = m := if_neg c
    have hsh : shM m = 0 := if_neg c
    exact hj σ (by rw [hmn]; exact h3) (fun i hi => by rw [hsh]; exact ⟨rfl, rfl, rfl⟩) (fun _ _ _ _ => rfl)
end CHG2
