/-! the next assignment: both -/
section PL5
variable {σ τ : xS} {q r n b k : Nat} {β : Nat → Int} {D : Nat → Nat → Int} {S m V : Nat} {x e : Int} {rd du ld : Nat → Int} {a : Nat → Nat}
theorem and1_tab : ∀ m : Fin 128, ∀ i : Fin 7, zI (zand (m.val : Int) (zshl 1 (i.val : Int))) = if m.val.testBit i.val = true then ((2 ^ i.val : Nat) : Int) else 0 := by decide +kernel
theorem and1_of {m i : Nat} (hm : m < 128) (hi : i < 7) : zI (zand (m : Int) (zshl 1 (i : Int))) = if m.testBit i = true then ((2 ^ i : Nat) : Int) else 0 := and1_tab ⟨m, hm⟩ ⟨i, hi⟩
theorem mv_rows {A k v : Nat} (h : ∀ u, u < 3 → τ A u = (sgA m a u : Int)) (hk : k < 7) (t : m.testBit k = true) (ha : a k < 3) (hv : v < 3) : ∀ u, u < 3 → (xput (xput τ A (a k) ((sgA m a (a k) - 2 ^ k : Nat) : Int)) A v (zor ((xput τ A (a k) ((sgA m a (a k) - 2 ^ k : Nat) : Int)) A v) (zshl 1 (k : Int)))) A u = (sgA m (stA a k v) u : Int) := by
  intro u hu
  obtain ⟨g1, g2, g3, g4⟩ := sgA_move (m := m) (a := a) (v := v) hk t
  obtain ⟨h1, -⟩ := sgA_out (m := m) (a := a) hk t
  have hl := sub_le (sgA_lt (m := m) a (a k)) hk h1
  have hlt := sgA_lt (m := m) a (a k)
  by_cases c : a k = v
  · subst c
    by_cases d : u = a k
    · rw [d, xput_eq, xput_eq, or_of (by omega) hk, g4 rfl]
    · rw [xput_ne (by omega), xput_ne (by omega), h u hu, g1 u d d]
  · by_cases d : u = v
    · subst d
      rw [xput_eq, xput_ne (by omega), h u hu, or_of (sgA_lt _ _) hk, g3 c]
    · rw [xput_ne (by omega)]
      by_cases d2 : u = a k
      · rw [d2, xput_eq, g2 c]
      · rw [xput_ne (by omega), h u hu, g1 u d2 d]
/-- the class's assignment -/
def AW (σ : xS) (q m : Nat) (a : Nat → Nat) : Prop := (∀ v, v < 3 → σ (q + 8) v = (sgA m a v : Int)) ∧ ∀ s, s < 7 → σ (q + 9) s = (a s : Int)
theorem c_nextWay (h3 : σ q 3 = (m : Int)) (hm : m < 128) (hV : 0 < V ∧ V ≤ 3) (h11 : m = 0 ∨ σ b 11 = (V : Int)) (hbq : b < q) (hA : AW σ q m a) (ha : ∀ s, a s < V) (hn : 4000000 ≤ n) :
    OK (m_X8_nextWay n q b σ) (fun τ => AW τ q m (nxA m V 7 a).1 ∧ ∀ k j, k ≠ q + 8 → k ≠ q + 9 → τ k j = σ k j) := by
  unfold m_X8_nextWay
  refine loop_for 7 (fun i (t : Int × xS) => t.1 = 6 - (i : Int) ∧ (∃ a', nxA m V 7 a = nxA m V (7 - i) a' ∧ AW t.2 q m a' ∧ ∀ s, a' s < V) ∧ ∀ k j, k ≠ q + 8 → k ≠ q + 9 → t.2 k j = σ k j) ?_ ?_ (by omega) ⟨rfl, ⟨a, rfl, hA, ha⟩, fun _ _ _ _ => rfl⟩
  · rintro i ⟨u, τ⟩ hi ⟨h1, ⟨a', h2, h4, h5⟩, h6⟩ rec hrec
    try dsimp only at h1 h4 h6 hrec ⊢
    subst h1
    obtain ⟨k, hk⟩ : ∃ k : Nat, (k : Int) = 6 - (i : Int) := ⟨6 - i, by omega⟩
    have hk7 : 7 - i = k + 1 := by omega
    have hki : 7 - (i + 1) = k := by omega
    rw [hk7, show nxA m V (k + 1) a' = (if m.testBit k = true then (if a' k + 1 < V then (stA a' k (a' k + 1), true) else nxA m V k (stA a' k 0)) else nxA m V k a') from rfl] at h2
    rw [hki] at hrec
    have e3 : τ q 3 = (m : Int) := by rw [h6 _ _ (by omega) (by omega)]; exact h3
    have e9 := h4.2 k (by omega)
    have hak := h5 k
    rw [← hk, zI_of (n := (k : Int)) (by omega) (by omega), if_neg (by omega), xlet_eq, xj_eq]
    simp only [e3]
    rw [and1_of hm (by omega)]
    have p7 := pow7 (i := k) (by omega)
    by_cases t : m.testBit k = true
    · have e11 : τ b 11 = (V : Int) := by
        rcases h11 with z | z
        · rw [z, Nat.zero_testBit] at t
          exact absurd t (by decide)
        · rw [h6 _ _ (by omega) (by omega)]; exact z
      obtain ⟨o1, -⟩ := sgA_out (m := m) (a := a') (show k < 7 by omega) t
      have e8 := h4.1 (a' k) (by omega)
      have hsz := sub_zand (sgA_lt a' (a' k)) (show k < 7 by omega) o1
      rw [if_pos t] at h2
      rw [if_pos t, if_neg (by omega), xck_of (by omega) (by omega), xj_eq, tn_cast]
      simp only [e9, e11]
      rw [zI_of (n := (V : Int)) (by omega) (by omega), zI_of (n := (a' k : Int) + 1) (by omega) (by omega), xck_of (i := (k : Int)) (by omega) (by omega), xck_of (i := (k : Int)) (by omega) (by omega)]
      have fin : ∀ v : Nat, v < 3 → ∀ P : xS → Prop, ((∀ τ', AW τ' q m (stA a' k v) → (∀ k j, k ≠ q + 8 → k ≠ q + 9 → τ' k j = σ k j) → P τ') → P (xput (xput (xput τ (q + 8) (a' k) ((sgA m a' (a' k) - 2 ^ k : Nat) : Int)) (q + 8) v (zor ((xput τ (q + 8) (a' k) ((sgA m a' (a' k) - 2 ^ k : Nat) : Int)) (q + 8) v) (zshl 1 (k : Int)))) (q + 9) k (v : Int))) := fun v hv P hP => by
        refine hP _ ⟨fun u hu => ?_, fun s hs => ?_⟩ (fun k' j c1 c2 => ?_)
        · rw [xput_ne (by omega)]
          exact mv_rows h4.1 (by omega) t (by omega) hv u hu
        · by_cases d : s = k
          · rw [d, xput_eq, stA_eq]
          · rw [xput_ne (by omega), xput_ne (by omega), xput_ne (by omega), stA_ne d]
            exact h4.2 s hs
        · rw [xput_ne (by omega), xput_ne (by omega), xput_ne (by omega)]
          exact h6 k' j c1 c2
      by_cases d : a' k + 1 < V
      · rw [if_pos d] at h2
        rw [if_neg (by omega)]
        have hcast : (a' k : Int) + 1 = ((a' k + 1 : Nat) : Int) := by omega
        rw [hcast]
        simp (disch := omega) only [xck_of, tn_cast, xlet_eq, e8, hsz, zI_of (n := (a' k : Int)), zI_of (n := ((a' k + 1 : Nat) : Int)), if_neg]
        refine fin (a' k + 1) (by omega) (fun z => OK (some z) _) (fun τ' w1 w2 => OK_some ⟨?_, w2⟩)
        rw [h2]
        exact w1
      · rw [if_neg d] at h2
        rw [if_pos (by omega)]
        simp (disch := omega) only [xck_of, tn_cast, tn_lit, xlet_eq, e8, hsz, zI_of (n := (a' k : Int)), zI_of (n := (0 : Int)), if_true]
        have := fin 0 (by omega) (fun z => OK (rec ((k : Int) + (-1), z)) (fun τ => AW τ q m (nxA m V 7 a).1 ∧ ∀ k j, k ≠ q + 8 → k ≠ q + 9 → τ k j = σ k j)) (fun τ' w1 w2 => hrec _ ⟨by (try dsimp only); omega, ⟨_, h2, w1, fun s => ?_⟩, w2⟩)
        · exact this
        · show (if s = k then 0 else a' s) < V
          have := h5 s
          split <;> omega
    · rw [if_neg t] at h2
      rw [if_neg t, if_pos rfl]
      simp only [xlet_eq]
      exact hrec _ ⟨by (try dsimp only); omega, ⟨a', h2, h4, h5⟩, h6⟩
  · rintro ⟨u, τ⟩ ⟨h1, ⟨a', h2, h4, h5⟩, h6⟩ rec
    try dsimp only at h1 h4 h6 ⊢
    subst h1
    rw [zI_of (by omega) (by omega), if_pos (by omega)]
    refine OK_some ⟨?_, h6⟩
    rw [h2]
    exact h4
end PL5
