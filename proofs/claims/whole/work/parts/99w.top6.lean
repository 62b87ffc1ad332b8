/-! calls: feeding -/
section TOP6
variable {σ τ s x y y0 : xS} {n m b L : Nat} {β γ δ : Nat → Int} {B : Nat → Nat → Int} {p q : Int} {p1 p2 p3 p4 p5 : Int}
/-- a byte of a word -/
def byW (p : Int) (k : Nat) : Int := zb (zi2b (zshr p (24 - 8 * (k : Int))))
theorem byW_bd (p : Int) (k : Nat) : -128 ≤ byW p k ∧ byW p k ≤ 127 := by
  unfold byW
  generalize zi2b (zshr p (24 - 8 * (k : Int))) = x
  have e : zb x = (Int32.ofInt x).toInt8.toInt := by
    show ((Int32.ofInt x).toInt8.toInt32).toInt = _
    exact Int8.toInt_toInt32 _
  have h1 := Int8.le_toInt (Int32.ofInt x).toInt8
  have h2 := Int8.toInt_lt (Int32.ofInt x).toInt8
  rw [e]
  omega
theorem c_append (h1 : σ 0 1 = (L : Int)) (hL : L + 4 ≤ 1600) (hn : 4000000 ≤ n) : OK (m_X12_append n p σ) (fun τ => τ 0 1 = ((L + 4 : Nat) : Int) ∧ (∀ j, τ 1 j = if L ≤ j ∧ j < L + 4 then byW p (j - L) else σ 1 j) ∧ ∀ a j, a ≠ 1 → ¬ (a = 0 ∧ j = 1) → τ a j = σ a j) := by
  unfold m_X12_append
  refine loop_for 4 (fun i (t : Int × xS) => t.1 = 24 - 8 * (i : Int) ∧ t.2 0 1 = ((L + i : Nat) : Int) ∧ (∀ j, t.2 1 j = if L ≤ j ∧ j < L + i then byW p (j - L) else σ 1 j) ∧ ∀ a j, a ≠ 1 → ¬ (a = 0 ∧ j = 1) → t.2 a j = σ a j) ?_ ?_ (by omega) ⟨rfl, h1, fun j => by rw [if_neg (by omega)], fun _ _ _ _ => rfl⟩
  · rintro i t hi ⟨g1, g2, g3, g4⟩ rec hrec
    try dsimp only
    rw [xj_eq, g1, g2, zI_of (n := 24 - 8 * (i : Int)) (by omega) (by omega), if_neg (by omega), zI_of (n := ((L + i : Nat) : Int)) (by omega) (by omega), if_neg (by omega), xck_of (by omega) (by omega), xlet_eq, xlet_eq, xlet_eq, tn_cast]
    refine hrec _ ⟨by show 24 - 8 * (i : Int) + -8 = _; omega, ?_, fun j => ?_, fun a j c1 c2 => ?_⟩
    · dsimp only
      rw [xput_eq, xput_ne (by omega), g2]
      omega
    · dsimp only
      rw [xput_ne (by omega)]
      by_cases c : j = L + i
      · subst c
        rw [xput_eq, if_pos (by omega), show L + i - L = i by omega]
        rfl
      · rw [xput_ne (by omega), g3 j]
        by_cases d : L ≤ j ∧ j < L + i
        · rw [if_pos d, if_pos (by omega)]
        · rw [if_neg d, if_neg (by omega)]
    · dsimp only
      rw [xput_ne (by omega), xput_ne (by omega)]
      exact g4 a j c1 c2
  · rintro t ⟨g1, g2, g3, g4⟩ rec
    try dsimp only
    rw [xj_eq, g1, zI_of (by omega) (by omega), if_pos (by omega)]
    exact OK_some ⟨g2, g3, g4⟩
/-- the bytes of five words -/
def fdW (p1 p2 p3 p4 p5 : Int) (k : Nat) : Int := if k < 4 then p1 else if k < 8 then p2 else if k < 12 then p3 else if k < 16 then p4 else p5
def fdB (p1 p2 p3 p4 p5 : Int) (k : Nat) : Int := byW (fdW p1 p2 p3 p4 p5 k) (k % 4)
theorem fd_at {a k : Nat} {v : Int} (hk : k < 4) (hv : ∀ i, i < 4 → fdW p1 p2 p3 p4 p5 (4 * a + i) = v) : fdB p1 p2 p3 p4 p5 (4 * a + k) = byW v k := by
  unfold fdB
  rw [hv k hk, show (4 * a + k) % 4 = k by omega]
theorem c_appendAt {a : Nat} (h1 : σ 0 1 = ((L + 4 * a : Nat) : Int)) (hL : L + 4 * a + 4 ≤ 1600) (hb : ∀ j, σ 1 j = if L ≤ j ∧ j < L + 4 * a then fdB p1 p2 p3 p4 p5 (j - L) else s 1 j) (hf : ∀ a j, a ≠ 1 → ¬ (a = 0 ∧ j = 1) → σ a j = s a j) (hv : ∀ i, i < 4 → fdW p1 p2 p3 p4 p5 (4 * a + i) = p) (hn : 4000000 ≤ n) : OK (m_X12_append n p σ) (fun τ => τ 0 1 = ((L + 4 * (a + 1) : Nat) : Int) ∧ (∀ j, τ 1 j = if L ≤ j ∧ j < L + 4 * (a + 1) then fdB p1 p2 p3 p4 p5 (j - L) else s 1 j) ∧ ∀ a j, a ≠ 1 → ¬ (a = 0 ∧ j = 1) → τ a j = s a j) := by
  refine OK_mono (c_append h1 hL hn) fun τ h => ?_
  obtain ⟨g1, g2, g3⟩ := h
  refine ⟨by rw [g1]; omega, fun j => ?_, fun a j c1 c2 => by rw [g3 a j c1 c2, hf a j c1 c2]⟩
  rw [g2 j]
  by_cases c : L + 4 * a ≤ j ∧ j < L + 4 * a + 4
  · rw [if_pos c, if_pos (by omega)]
    have := fd_at (p1 := p1) (p2 := p2) (p3 := p3) (p4 := p4) (p5 := p5) (a := a) (k := j - (L + 4 * a)) (by omega) hv
    rw [← this, show 4 * a + (j - (L + 4 * a)) = j - L by omega]
  · rw [if_neg c, hb j]
    by_cases d : L ≤ j ∧ j < L + 4 * a
    · rw [if_pos d, if_pos (by omega)]
    · rw [if_neg d, if_neg (by omega)]
theorem r_feedLoop (h9 : σ 184 9 = (L : Int)) (hL : L + 20 ≤ 1600) (hn : 4000000 ≤ n) : OK (loopF (fun rec4 (t3 : Int × xS) => if 20 ≤ (zI t3.1) then some (t3.2 184 9, t3.2) else xlet (if 4 ≤ (zI t3.1) then if 8 ≤ (zI t3.1) then if 12 ≤ (zI t3.1) then if 16 ≤ (zI t3.1) then p5 else p4 else p3 else p2 else p1) fun v7 => xnz (zI 4) <| xck (zI (t3.2 184 9)) 1600 <| xlet (xput t3.2 189 (zI (t3.2 184 9)).toNat (zb (zi2b (zshr v7 (24 - (8 * (t3.1 - (zI t3.1).tdiv (zI 4) * 4))))))) fun s8 => xlet (xput s8 184 9 ((s8 184 9) + 1)) fun s9 => xlet (t3.1 + 1) fun v10 => rec4 (v10, s9)) n (0, σ))
    (fun y => y.1 = ((L + 20 : Nat) : Int) ∧ y.2 184 9 = ((L + 20 : Nat) : Int) ∧ (∀ j, y.2 189 j = if L ≤ j ∧ j < L + 20 then fdB p1 p2 p3 p4 p5 (j - L) else σ 189 j) ∧ ∀ a j, a ≠ 189 → ¬ (a = 184 ∧ j = 9) → y.2 a j = σ a j) := by
  refine loop_for 20 (fun i (t : Int × xS) => t.1 = (i : Int) ∧ t.2 184 9 = ((L + i : Nat) : Int) ∧ (∀ j, t.2 189 j = if L ≤ j ∧ j < L + i then fdB p1 p2 p3 p4 p5 (j - L) else σ 189 j) ∧ ∀ a j, a ≠ 189 → ¬ (a = 184 ∧ j = 9) → t.2 a j = σ a j) ?_ ?_ (by omega) ⟨rfl, h9, fun j => by rw [if_neg (by omega)], fun _ _ _ _ => rfl⟩
  · rintro i t hi ⟨g1, g2, g3, g4⟩ rec hrec
    have ew : (if 4 ≤ (i : Int) then if 8 ≤ (i : Int) then if 12 ≤ (i : Int) then if 16 ≤ (i : Int) then p5 else p4 else p3 else p2 else p1) = fdW p1 p2 p3 p4 p5 i := by
      unfold fdW
      repeat' split
      all_goals first | rfl | omega
    have em : (i : Int) - (i : Int).tdiv 4 * 4 = ((i % 4 : Nat) : Int) := by
      rw [Int.tdiv_eq_ediv_of_nonneg (by omega)]
      omega
    try dsimp only
    rw [g1, g2, zI_of (n := (i : Int)) (by omega) (by omega), zI_of (n := 4) (by omega) (by omega), if_neg (by omega), ew, em, xlet_eq, xnz_of (by omega), zI_of (n := ((L + i : Nat) : Int)) (by omega) (by omega), xck_of (by omega) (by omega), xlet_eq, xlet_eq, xlet_eq, tn_cast]
    refine hrec _ ⟨by show (i : Int) + 1 = _; omega, ?_, fun j => ?_, fun a j c1 c2 => ?_⟩
    · dsimp only
      rw [xput_eq, xput_ne (by omega), g2]
      omega
    · dsimp only
      rw [xput_ne (by omega)]
      by_cases c : j = L + i
      · subst c
        rw [xput_eq, if_pos (by omega), show L + i - L = i by omega]
        rfl
      · rw [xput_ne (by omega), g3 j]
        by_cases d : L ≤ j ∧ j < L + i
        · rw [if_pos d, if_pos (by omega)]
        · rw [if_neg d, if_neg (by omega)]
    · dsimp only
      rw [xput_ne (by omega), xput_ne (by omega)]
      exact g4 a j c1 c2
  · rintro t ⟨g1, g2, g3, g4⟩ rec
    try dsimp only
    rw [g1, zI_of (by omega) (by omega), if_pos (by omega)]
    exact OK_some ⟨g2, g2, g3, g4⟩
theorem q_feed (h : TJ σ β L m B) (hn : 4000000 ≤ n) : CALL (m_X12_feed n p1 p2 p3 p4 p5 σ) (m_X13_feed n p1 p2 p3 p4 p5) := by
  have h' := h
  obtain ⟨tP, h0β, hH, ⟨f1, f2, f3, f4, f5⟩, hE, hF⟩ := h
  unfold m_X12_feed
  rw [f1, zI_of (n := (L : Int) + 20) (by omega) (by omega)]
  by_cases c : (L : Int) + 20 ≤ 1600
  · rw [if_pos c]
    have w0 : ∀ i, i < 4 → fdW p1 p2 p3 p4 p5 (4 * 0 + i) = p1 := fun i hi => if_pos (by omega)
    have w1 : ∀ i, i < 4 → fdW p1 p2 p3 p4 p5 (4 * 1 + i) = p2 := fun i hi => by unfold fdW; rw [if_neg (by omega), if_pos (by omega)]
    have w2 : ∀ i, i < 4 → fdW p1 p2 p3 p4 p5 (4 * 2 + i) = p3 := fun i hi => by unfold fdW; rw [if_neg (by omega), if_neg (by omega), if_pos (by omega)]
    have w3 : ∀ i, i < 4 → fdW p1 p2 p3 p4 p5 (4 * 3 + i) = p4 := fun i hi => by unfold fdW; rw [if_neg (by omega), if_neg (by omega), if_neg (by omega), if_pos (by omega)]
    have w4 : ∀ i, i < 4 → fdW p1 p2 p3 p4 p5 (4 * 4 + i) = p5 := fun i hi => by unfold fdW; rw [if_neg (by omega), if_neg (by omega), if_neg (by omega), if_neg (by omega)]
    refine OK_bind (c_appendAt (s := σ) (a := 0) f1 (by omega) (fun j => by rw [if_neg (by omega)]) (fun _ _ _ _ => rfl) w0 hn) fun s2 g => ?_
    refine OK_bind (c_appendAt (a := 1) g.1 (by omega) g.2.1 g.2.2 w1 hn) fun s3 g => ?_
    refine OK_bind (c_appendAt (a := 2) g.1 (by omega) g.2.1 g.2.2 w2 hn) fun s4 g => ?_
    refine OK_bind (c_appendAt (a := 3) g.1 (by omega) g.2.1 g.2.2 w3 hn) fun s5 g => ?_
    refine OK_bind (c_appendAt (a := 4) g.1 (by omega) g.2.1 g.2.2 w4 hn) fun s6 g => ?_
    obtain ⟨g1, g2, g3⟩ := g
    refine OK_some ⟨by dsimp only; omega, ?_⟩
    dsimp only
    unfold m_X13_feed
    have e9 : (xput s6 184 7 0) 184 9 = (L : Int) := by rw [xput_ne (by omega), g3 _ _ (by omega) (by omega)]; exact f2
    rw [xlet_eq, e9, zI_of (n := (L : Int) + 20) (by omega) (by omega), if_pos c]
    refine OK_mono (r_feedLoop e9 (by omega) hn) fun y hy => ?_
    obtain ⟨k1, k2, k3, k4⟩ := hy
    refine ⟨by rw [k1, g1], β, L + 20, m, B, TJ_buf h' (fun a j c1 c2 c3 c4 => ?_) ⟨?_, k2, by omega, ?_, ?_⟩⟩
    · rw [k4 a j c2 (by omega), xput_ne (by omega), g3 a j c1 c3]
    · rw [k4 _ _ (by omega) (by omega), xput_ne (by omega), g1]
    · funext j
      rw [k4 _ _ (by omega) (by omega), xput_ne (by omega), g2 j, k3 j, xput_ne (by omega), g3 _ _ (by omega) (by omega), f4]
    · intro q
      rw [k3 q]
      by_cases d : L ≤ q ∧ q < L + 20
      · rw [if_pos d]
        exact byW_bd _ _
      · rw [if_neg d, xput_ne (by omega), g3 _ _ (by omega) (by omega)]
        exact f5 q
  · rw [if_neg c]
    refine CALL_no h' (by omega) (by omega) ?_
    unfold m_X13_feed
    rw [xlet_eq, xput_ne (by omega), f2, zI_of (n := (L : Int) + 20) (by omega) (by omega), if_neg c]
end TOP6
