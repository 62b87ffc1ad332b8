/-! assignments of the served shops to vans, one after another -/
section PL4
/-- a function with one value set -/
def stA (a : Nat → Nat) (k v : Nat) : Nat → Nat := fun s => if s = k then v else a s
/-- the next one: the last shop that can gets the next van -/
def nxA (m V : Nat) : Nat → (Nat → Nat) → (Nat → Nat) × Bool
  | 0, a => (a, false)
  | k + 1, a => if m.testBit k = true then (if a k + 1 < V then (stA a k (a k + 1), true) else nxA m V k (stA a k 0)) else nxA m V k a
/-- its number, of the first k shops; how many there are -/
def vlA (m V : Nat) : Nat → (Nat → Nat) → Nat
  | 0, _ => 0
  | k + 1, a => if m.testBit k = true then vlA m V k a * V + a k else vlA m V k a
def pwA (m V : Nat) : Nat → Nat
  | 0 => 1
  | k + 1 => if m.testBit k = true then pwA m V k * V else pwA m V k
variable {m V : Nat}
theorem vlA_congr : ∀ k (a a' : Nat → Nat), (∀ s, s < k → a s = a' s) → vlA m V k a = vlA m V k a'
  | 0, _, _, _ => rfl
  | k + 1, a, a', h => by
    rw [vlA, vlA, vlA_congr k a a' (fun s hs => h s (by omega)), h k (by omega)]
theorem stA_ne {a : Nat → Nat} {k v s : Nat} (h : s ≠ k) : stA a k v s = a s := if_neg h
theorem stA_eq {a : Nat → Nat} {k v : Nat} : stA a k v k = v := if_pos rfl
theorem nxA_spec (hV : 0 < V) : ∀ k (a : Nat → Nat), (∀ s, a s < V) → (∀ s, (nxA m V k a).1 s < V) ∧ (∀ s, k ≤ s → (nxA m V k a).1 s = a s) ∧ (∀ s, m.testBit s = false → (nxA m V k a).1 s = a s) ∧ ((nxA m V k a).2 = true → vlA m V k (nxA m V k a).1 = vlA m V k a + 1) ∧ ((nxA m V k a).2 = false → vlA m V k a + 1 = pwA m V k)
  | 0, a, h => ⟨h, fun _ _ => rfl, fun _ _ => rfl, fun h => absurd (show false = true from h) (by decide), fun _ => rfl⟩
  | k + 1, a, h => by
    rw [nxA]
    by_cases c : m.testBit k = true
    · rw [if_pos c]
      by_cases d : a k + 1 < V
      · rw [if_pos d]
        refine ⟨fun s => ?_, fun s hs => stA_ne (by omega), fun s hs => ?_, fun _ => ?_, fun h => absurd (show true = false from h) (by decide)⟩
        · show (if s = k then a k + 1 else a s) < V
          have := h s
          split <;> omega
        · refine stA_ne fun e => ?_
          rw [e, c] at hs
          exact absurd hs (by decide)
        · try dsimp only
          rw [vlA, vlA, if_pos c, if_pos c, stA_eq, vlA_congr k (stA a k (a k + 1)) a (fun s hs => stA_ne (by omega))]
          omega
      · rw [if_neg d]
        have hk := h k
        have h' : ∀ s, stA a k 0 s < V := fun s => by
          show (if s = k then 0 else a s) < V
          have := h s
          split <;> omega
        obtain ⟨i1, i2, i3, i4, i5⟩ := nxA_spec hV k (stA a k 0) h'
        have e0 : vlA m V k (stA a k 0) = vlA m V k a := vlA_congr k _ _ (fun s hs => stA_ne (by omega))
        refine ⟨i1, fun s hs => ?_, fun s hs => ?_, fun t => ?_, fun t => ?_⟩
        · rw [i2 s (by omega), stA_ne (by omega)]
        · rw [i3 s hs]
          refine stA_ne fun e => ?_
          rw [e, c] at hs
          exact absurd hs (by decide)
        · rw [vlA, vlA, if_pos c, if_pos c, i4 t, e0, i2 k (Nat.le_refl _), stA_eq, Nat.add_mul]
          omega
        · have h5 := i5 t
          rw [e0] at h5
          rw [vlA, pwA, if_pos c, if_pos c, ← h5, Nat.add_mul]
          omega
    · rw [if_neg c]
      obtain ⟨i1, i2, i3, i4, i5⟩ := nxA_spec hV k a h
      rw [vlA, vlA, pwA, if_neg c, if_neg c, if_neg c]
      exact ⟨i1, fun s hs => i2 s (by omega), i3, i4, i5⟩
/-- the assignments in their order -/
def asA (m V : Nat) : Nat → Nat → Nat
  | 0 => fun _ => 0
  | i + 1 => (nxA m V 7 (asA m V i)).1
theorem asA_lt (hV : 0 < V) : ∀ i s, asA m V i s < V
  | 0, _ => hV
  | i + 1, s => (nxA_spec hV 7 (asA m V i) (asA_lt hV i)).1 s
theorem pwA_0 {V : Nat} : ∀ k, pwA 0 V k = 1
  | 0 => rfl
  | k + 1 => by
    rw [pwA, if_neg (by rw [Nat.zero_testBit]; decide), pwA_0 k]
theorem pw_tab : ∀ m : Fin 128, ∀ V : Fin 4, pwA m.val V.val 7 = V.val ^ bcN m.val := by decide +kernel
/-- the shops of a van -/
def sgA (m : Nat) (a : Nat → Nat) (v : Nat) : Nat := b7 (fun s => m.testBit s && decide (a s = v))
theorem sgA_lt (a : Nat → Nat) (v : Nat) : sgA m a v < 128 := b7_lt _
theorem sgA_bit {a : Nat → Nat} {v s : Nat} (hs : s < 7) : (sgA m a v).testBit s = (m.testBit s && decide (a s = v)) := b7_bit _ hs
theorem sgA_sb (a : Nat → Nat) (v : Nat) : sbP (sgA m a v) m := fun s hs h => by
  rw [sgA_bit hs, Bool.and_eq_true] at h
  exact h.1
theorem sgA_pow {S : Nat} (hS : S ≤ 7) (hm : m < 2 ^ S) (a : Nat → Nat) (v : Nat) : sgA m a v < 2 ^ S := b7_pow hS fun s _ h => by
  simp only [Bool.and_eq_true] at h
  exact bit_lt hm h.1
theorem sgA_0 (hm : m < 128) : sgA m (fun _ => 0) 0 = m := bits_eq (sgA_lt _ _) hm fun s hs => by
  rw [sgA_bit hs]
  simp
theorem sgA_none {a : Nat → Nat} {v : Nat} (h : ∀ s, s < 7 → m.testBit s = true → a s ≠ v) : sgA m a v = 0 := bits_eq (sgA_lt _ _) (by omega) fun s hs => by
  rw [sgA_bit hs, Nat.zero_testBit]
  cases t : m.testBit s
  · rfl
  · rw [decide_eq_false (h s hs t)]
    rfl
/-- a shop goes from one van to another: out of the one, into the other -/
theorem sgA_out {a : Nat → Nat} {k : Nat} (hk : k < 7) (t : m.testBit k = true) : (sgA m a (a k)).testBit k = true ∧ ∀ s, s < 7 → (sgA m a (a k) - 2 ^ k).testBit s = ((m.testBit s && decide (a s = a k)) && decide (s ≠ k)) := by
  have h1 : (sgA m a (a k)).testBit k = true := by
    rw [sgA_bit hk, t]
    simp
  exact ⟨h1, fun s hs => by rw [sub_bit (sgA_lt _ _) hk hs h1, sgA_bit hs]⟩
theorem or_bit {m i j : Nat} : (m ||| 1 <<< i).testBit j = (m.testBit j || decide (i = j)) := by
  rw [Nat.testBit_or, Nat.one_shiftLeft, Nat.testBit_two_pow]
theorem or_lt {m i : Nat} (hm : m < 128) (hi : i < 7) : m ||| 1 <<< i < 128 := by
  have h1 : (1 <<< i : Nat) < 2 ^ 7 := by
    rw [Nat.one_shiftLeft]
    exact Nat.pow_lt_pow_right (by omega) hi
  exact Nat.or_lt_two_pow (n := 7) hm h1
theorem sgA_move {a : Nat → Nat} {k v : Nat} (hk : k < 7) (t : m.testBit k = true) : (∀ u, u ≠ a k → u ≠ v → sgA m (stA a k v) u = sgA m a u) ∧ (a k ≠ v → sgA m (stA a k v) (a k) = sgA m a (a k) - 2 ^ k) ∧ (a k ≠ v → sgA m (stA a k v) v = sgA m a v ||| 1 <<< k) ∧ (a k = v → sgA m (stA a k v) v = (sgA m a v - 2 ^ k) ||| 1 <<< k) := by
  obtain ⟨h1, h2⟩ := sgA_out (a := a) hk t
  have hl := sub_le (sgA_lt (m := m) a (a k)) hk h1
  have hlt := sgA_lt (m := m) a (a k)
  refine ⟨fun u h3 h4 => ?_, fun h3 => ?_, fun h3 => ?_, fun h3 => ?_⟩
  · refine bits_eq (sgA_lt _ _) (sgA_lt _ _) fun s hs => ?_
    rw [sgA_bit hs, sgA_bit hs]
    by_cases e : s = k
    · subst e
      rw [stA_eq, decide_eq_false (fun z => h4 z.symm), decide_eq_false (fun z => h3 z.symm)]
    · rw [stA_ne e]
  · refine bits_eq (sgA_lt _ _) (by omega) fun s hs => ?_
    rw [sgA_bit hs, h2 s hs]
    by_cases e : s = k
    · subst e
      rw [stA_eq, decide_eq_false (fun z => h3 z.symm)]
      simp
    · rw [stA_ne e, decide_eq_true e, Bool.and_true]
  · refine bits_eq (sgA_lt _ _) (or_lt (sgA_lt _ _) hk) fun s hs => ?_
    rw [sgA_bit hs, or_bit, sgA_bit hs]
    by_cases e : s = k
    · subst e
      rw [stA_eq, t]
      simp
    · rw [stA_ne e, decide_eq_false (show ¬ k = s from fun z => e z.symm), Bool.or_false]
  · subst h3
    refine bits_eq (sgA_lt _ _) (or_lt (by omega) hk) fun s hs => ?_
    rw [sgA_bit hs, or_bit, h2 s hs]
    by_cases e : s = k
    · subst e
      rw [stA_eq, t]
      simp
    · rw [stA_ne e, decide_eq_true e, Bool.and_true, decide_eq_false (show ¬ k = s from fun z => e z.symm), Bool.or_false]
end PL4
