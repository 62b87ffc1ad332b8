/-! words, keywords, names; what the class's scanner tells of its token -/
section TX2
def wl (w : Nat) : Nat := (sLen w).toNat
def wc (w j : Nat) : Int := sByt w j
theorem wl_tab : ∀ w : Fin 24, (1 ≤ wl w.val ∧ wl w.val ≤ 7) ∧ zI (m_J0_length_8abf5 w.val) = (wl w.val : Int) ∧ m_J0_length_8abf5 w.val = (wl w.val : Int) := by decide +kernel
theorem wc_tab : ∀ w : Fin 24, ∀ j : Fin 7, j.val < wl w.val → (97 ≤ wc w.val j.val ∧ wc w.val j.val ≤ 122) ∧ m_J0_charAt_5068e w.val (j.val : Int) = some (wc w.val j.val) := by decide +kernel
theorem ww_tab : ∀ w v : Fin 24, w.val ≠ v.val → wl w.val ≠ wl v.val ∨ ∃ j : Fin 7, j.val < wl w.val ∧ wc w.val j.val ≠ wc v.val j.val := by decide +kernel
variable {T : Nat → Int} {L p : Nat}
/-- the token is this word -/
def iwB (T : Nat → Int) (L p w : Nat) : Bool := decide (kdF T L p = 1) && (decide (enF T L p = p + wl w) && decide (∀ j, j < wl w → T (p + j) = wc w j))
theorem iwB_iff {w : Nat} : iwB T L p w = true ↔ kdF T L p = 1 ∧ enF T L p = p + wl w ∧ ∀ j, j < wl w → T (p + j) = wc w j := by
  unfold iwB
  rw [Bool.and_eq_true, Bool.and_eq_true, decide_eq_true_eq, decide_eq_true_eq, decide_eq_true_eq]
/-- the keyword that the token is; none: -1 -/
def kwN (T : Nat → Int) (L p : Nat) : Nat := fsF (iwB T L p) 24 0
def kwF (T : Nat → Int) (L p : Nat) : Int := if kwN T L p < 24 then (kwN T L p : Int) else -1
theorem kw_iff {w : Nat} (hw : w < 24) : kwF T L p = (w : Int) ↔ iwB T L p w = true := by
  obtain ⟨h1, h2, h3, h4⟩ := fsF_spec (iwB T L p) 24 0
  have e : kwN T L p = fsF (iwB T L p) 24 0 := rfl
  unfold kwF
  rw [e]
  constructor
  · intro h
    by_cases c : fsF (iwB T L p) 24 0 < 24
    · rw [if_pos c] at h
      have : fsF (iwB T L p) 24 0 = w := by omega
      rw [← this]
      exact h3 (by omega)
    · rw [if_neg c] at h
      omega
  · intro h
    have hle : fsF (iwB T L p) 24 0 ≤ w := by
      refine Nat.le_of_not_lt fun hlt => ?_
      rw [h4 w (by omega) hlt] at h
      exact absurd h (by decide)
    have hi := h3 (by omega)
    rw [if_pos (by omega)]
    by_cases c : fsF (iwB T L p) 24 0 = w
    · rw [c]
    · rw [iwB_iff] at h hi
      rcases ww_tab ⟨fsF (iwB T L p) 24 0, by omega⟩ ⟨w, hw⟩ c with z | ⟨j, z1, z2⟩
      · exact absurd (show wl (fsF (iwB T L p) 24 0) = wl w by omega) z
      · refine absurd ?_ z2
        have a := hi.2.2 j.val z1
        have b := h.2.2 j.val (by have : wl (fsF (iwB T L p) 24 0) = wl w := by omega
                                  have z1' : j.val < wl (fsF (iwB T L p) 24 0) := z1
                                  omega)
        show wc (fsF (iwB T L p) 24 0) j.val = wc w j.val
        rw [← a, ← b]
theorem kw_bd : -1 ≤ kwF T L p ∧ kwF T L p < 24 := by
  unfold kwF
  split <;> omega
theorem kw_kind (h : kwF T L p ≠ -1) : kdF T L p = 1 := by
  have hb := kw_bd (T := T) (L := L) (p := p)
  have := (kw_iff (T := T) (L := L) (p := p) (w := (kwF T L p).toNat) (by omega)).mp (by omega)
  exact (iwB_iff.mp this).1
variable {σ τ : xS} {n : Nat}
theorem c_keyword (h : SC σ T L p) (hn : 4000000 ≤ n) : m_X10_keyword n σ = some (kwF T L p) := by
  obtain ⟨h1, h2, h3, h4, h5, h6, h7, h8, h9⟩ := h
  have he := enF_spec (T := T) h6
  have hz0 : σ 3 0 ≠ 0 := by rw [h9.2]; decide
  unfold m_X10_keyword
  have hkb : 0 ≤ kdF T L p ∧ kdF T L p ≤ 5 := by
    unfold kdF
    split
    · have := kF_bd (T p); omega
    · omega
  rw [h3, zI_of (by omega) (by omega)]
  by_cases c : kdF T L p = 1
  · rw [if_pos c, xlet_eq, h5, h4]
    obtain ⟨k1, k2, k3, k4⟩ := fsF_spec (iwB T L p) 24 0
    have ek : kwN T L p = fsF (iwB T L p) 24 0 := rfl
    suffices hh : OK (loopF _ n (0 : Int)) (fun v => v = kwF T L p) by
      obtain ⟨r, hr, hr2⟩ := hh
      rw [← hr2]
      exact hr
    -- one word
    have inner : ∀ (w : Nat), w < 24 → ∀ (K : Option Int), (iwB T L p w = false → OK K (fun v => v = kwF T L p)) → (iwB T L p w = true → (w : Int) = kwF T L p) → OK (loopF (fun rec9 (t8 : Int) => xj (fun (_ : Unit) => xj (fun (_ : Unit) => K) fun J14 => if (zI t8) = (zI ((enF T L p : Int) - (p : Int))) then if (zI t8) = (zI (m_J0_length_8abf5 w)) then some (w : Int) else J14 () else J14 ()) fun J11 => if (zI ((enF T L p : Int) - (p : Int))) ≤ (zI t8) then J11 () else if (zI (m_J0_length_8abf5 w)) ≤ (zI t8) then J11 () else xnz (σ 3 0) <| xck (zI ((p : Int) + t8)) 1600 <| (m_J0_charAt_5068e w t8).bind fun v22 => if (zI (σ 1 (zI ((p : Int) + t8)).toNat)) = (zI v22) then xlet (t8 + 1) fun v24 => rec9 v24 else J11 ()) n 0) (fun v => v = kwF T L p) := fun w hw K hK hyes => by
      obtain ⟨⟨l1, l2⟩, l3, l4⟩ := wl_tab ⟨w, hw⟩
      dsimp only at l1 l2 l3
      obtain ⟨m1, m2, m3, m4⟩ := fsF_spec (fun j => !(decide (j < enF T L p - p) && decide (j < wl w) && decide (T (p + j) = wc w j))) (wl w) 0
      have hall : ∀ j, j < fsF (fun j => !(decide (j < enF T L p - p) && decide (j < wl w) && decide (T (p + j) = wc w j))) (wl w) 0 → j < enF T L p - p ∧ j < wl w ∧ T (p + j) = wc w j := fun j hj => by
        have := m4 j (by omega) hj
        simp only [Bool.not_eq_false', Bool.and_eq_true, decide_eq_true_eq] at this
        exact ⟨this.1.1, this.1.2, this.2⟩
      generalize hM : fsF (fun j => !(decide (j < enF T L p - p) && decide (j < wl w) && decide (T (p + j) = wc w j))) (wl w) 0 = M at m1 m2 m3 m4 hall
      have hfin : (M < wl w → M < enF T L p - p → T (p + M) ≠ wc w M) → OK ((fun (_ : Unit) => xj (fun (_ : Unit) => K) fun J14 => if (M : Int) = (((enF T L p - p : Nat) : Int)) then if (M : Int) = (wl w : Int) then some (w : Int) else J14 () else J14 ()) ()) (fun v => v = kwF T L p) := fun hmis => by
        try dsimp only
        rw [xj_eq]
        by_cases q1 : M = enF T L p - p
        · rw [if_pos (by omega)]
          by_cases q2 : M = wl w
          · rw [if_pos (by omega)]
            exact OK_some (hyes (iwB_iff.mpr ⟨c, by omega, fun j hj => (hall j (by omega)).2.2⟩))
          · rw [if_neg (by omega)]
            refine hK ?_
            rw [Bool.eq_false_iff]
            intro z
            have := (iwB_iff.mp z).2.1
            omega
        · rw [if_neg (by omega)]
          refine hK ?_
          rw [Bool.eq_false_iff]
          intro z
          obtain ⟨z1, z2, z3⟩ := iwB_iff.mp z
          by_cases q2 : M < wl w
          · exact hmis q2 (by omega) (z3 M q2)
          · omega
      refine loop_for M (fun i (t : Int) => t = (i : Int)) ?_ ?_ (by omega) rfl
      · rintro j t hj rfl rec hrec
        obtain ⟨a1, a2, a3⟩ := hall j hj
        obtain ⟨⟨w1, w2⟩, w3⟩ := wc_tab ⟨w, hw⟩ ⟨j, by omega⟩ a2
        dsimp only at w1 w2 w3
        have hTb := h8 (p + j)
        try dsimp only
        rw [xj_eq, zI_of (n := (enF T L p : Int) - (p : Int)) (by omega) (by omega), zI_of (n := (j : Int)) (by omega) (by omega), if_neg (by omega), l3, if_neg (by omega), zI_of (n := (p : Int) + (j : Int)) (by omega) (by omega), xnz_of hz0, xck_of (by omega) (by omega), w3, bind_some', h1, show ((p : Int) + (j : Int)).toNat = p + j by omega, a3, if_pos rfl, xlet_eq]
        exact hrec _ (by omega)
      · rintro t rfl rec
        try dsimp only
        rw [xj_eq, zI_of (n := (enF T L p : Int) - (p : Int)) (by omega) (by omega), zI_of (n := (M : Int)) (by omega) (by omega), l3, show (enF T L p : Int) - (p : Int) = ((enF T L p - p : Nat) : Int) by omega]
        by_cases q1 : ((enF T L p - p : Nat) : Int) ≤ (M : Int)
        · rw [if_pos q1]
          exact hfin (fun _ z => by omega)
        · rw [if_neg q1]
          by_cases q2 : (wl w : Int) ≤ (M : Int)
          · rw [if_pos q2]
            exact hfin (fun z _ => by omega)
          · obtain ⟨⟨w1, w2⟩, w3⟩ := wc_tab ⟨w, hw⟩ ⟨M, by omega⟩ (by dsimp only; omega)
            dsimp only at w1 w2 w3
            have hTb := h8 (p + M)
            have hne : T (p + M) ≠ wc w M := fun z => by
              have := m3 (by omega)
              simp only [Bool.not_eq_true', Bool.and_eq_false_iff, decide_eq_false_iff_not] at this
              rcases this with (y | y) | y
              · omega
              · omega
              · exact y z
            rw [if_neg q2, zI_of (n := (p : Int) + (M : Int)) (by omega) (by omega), xnz_of hz0, xck_of (by omega) (by omega), w3, bind_some', h1, show ((p : Int) + (M : Int)).toNat = p + M by omega, zI_of (n := T (p + M)) (by omega) (by omega), zI_of (n := wc w M) (by omega) (by omega), if_neg hne]
            exact hfin (fun _ _ => hne)
    refine loop_for (fsF (iwB T L p) 24 0) (fun i (t : Int) => t = (i : Int)) ?_ ?_ (by omega) rfl
    · rintro w t hw rfl rec hrec
      have hno := k4 w (by omega) hw
      try dsimp only
      rw [zI_of (n := (w : Int)) (by omega) (by omega), if_neg (by omega), xck_of (by omega) (by omega)]
      simp only [tn_cast]
      refine inner w (by omega) (xlet ((w : Int) + 1) fun v17 => rec v17) (fun _ => ?_) (fun z => ?_)
      · rw [xlet_eq]
        exact hrec _ (by omega)
      · rw [hno] at z
        exact absurd z (by decide)
    · rintro t rfl rec
      try dsimp only
      by_cases c24 : fsF (iwB T L p) 24 0 < 24
      · have hy := k3 (by omega)
        have hkw : ((fsF (iwB T L p) 24 0 : Nat) : Int) = kwF T L p := ((kw_iff c24).mpr hy).symm
        generalize hWW : fsF (iwB T L p) 24 0 = W at c24 hy hkw
        rw [zI_of (n := (W : Int)) (by omega) (by omega), if_neg (by omega), xck_of (by omega) (by omega)]
        simp only [tn_cast]
        exact inner W c24 (xlet ((W : Int) + 1) fun v17 => rec v17) (fun z => by rw [hy] at z; exact absurd z (by decide)) (fun _ => hkw)
      · have hkw : kwF T L p = -1 := by
          unfold kwF
          rw [ek, if_neg c24]
        rw [zI_of (by omega) (by omega), if_pos (by omega), hkw]
        exact OK_some rfl
  · rw [if_neg c]
    have : kwF T L p = -1 := Classical.byContradiction fun z => c (kw_kind z)
    rw [this]
/-- the token is a name -/
def nmB (T : Nat → Int) (L p : Nat) : Bool := decide (kdF T L p = 1) && decide (enF T L p ≤ p + 8) && decide (kwF T L p = -1)
theorem nmB_iff : nmB T L p = true ↔ kdF T L p = 1 ∧ enF T L p ≤ p + 8 ∧ kwF T L p = -1 := by
  unfold nmB
  rw [Bool.and_eq_true, Bool.and_eq_true, decide_eq_true_eq, decide_eq_true_eq, decide_eq_true_eq, and_assoc]
theorem kd_bd : 0 ≤ kdF T L p ∧ kdF T L p ≤ 5 := by
  unfold kdF
  split
  · have := kF_bd (T p); omega
  · omega
theorem c_isName (h : SC σ T L p) (hn : 4000000 ≤ n) : m_X10_isName n σ = some (if nmB T L p = true then 1 else 0) := by
  have hk := c_keyword h hn
  have hb := kw_bd (T := T) (L := L) (p := p)
  have hd := kd_bd (T := T) (L := L) (p := p)
  obtain ⟨h1, h2, h3, h4, h5, h6, h7, h8, h9⟩ := h
  have he := enF_spec (T := T) h6
  unfold m_X10_isName
  rw [xj_eq, xj_eq, h3, h4, h5, zI_of (n := kdF T L p) (by omega) (by omega)]
  by_cases c1 : kdF T L p = 1
  · rw [if_pos c1, zI_of (n := (enF T L p : Int) - (p : Int)) (by omega) (by omega)]
    by_cases c2 : enF T L p ≤ p + 8
    · rw [if_neg (by omega), hk, bind_some', xwd_of (by omega) (by omega)]
      by_cases c3 : kwF T L p = -1
      · rw [if_pos c3, if_pos (nmB_iff.mpr ⟨c1, c2, c3⟩)]
        rfl
      · rw [if_neg c3, if_neg (fun z => c3 (nmB_iff.mp z).2.2)]
        rfl
    · rw [if_pos (by omega), if_neg (fun z => c2 (nmB_iff.mp z).2.1)]
      rfl
  · rw [if_neg c1, if_neg (fun z => c1 (nmB_iff.mp z).1)]
    rfl
/-- the letters of a word as a number, to a base -/
def dgF (b : Int) (T : Nat → Int) (p : Nat) : Nat → Int
  | 0 => 0
  | k + 1 => dgF b T p k * b + (T (p + k) - 96)
def nvF (T : Nat → Int) (p : Nat) : Nat → Int
  | 0 => 0
  | k + 1 => nvF T p k * 10 + (T (p + k) - 48)
theorem c_letters (h : SC σ T L p) (hn : 4000000 ≤ n) : m_X10_letters n σ = some (dgF 32 T p (enF T L p - p)) := by
  obtain ⟨h1, h2, h3, h4, h5, h6, h7, h8, h9⟩ := h
  have he := enF_spec (T := T) h6
  have hz0 : σ 3 0 ≠ 0 := by rw [h9.2]; decide
  unfold m_X10_letters
  rw [xlet_eq, h4]
  refine loop_eq (enF T L p - p) (fun i => (dgF 32 T p i, ((p + i : Nat) : Int))) rfl ?_ ?_ (by omega)
  · intro i hi rec
    have hT := h8 (p + i)
    dsimp only
    simp only [h5, h1]
    rw [zI_of (n := (enF T L p : Int)) (by omega) (by omega), zI_of (n := ((p + i : Nat) : Int)) (by omega) (by omega), if_neg (by omega), xnz_of hz0, xck_of (by omega) (by omega), tn_cast, zI_of (n := T (p + i)) (by omega) (by omega), xlet_eq, xlet_eq]
    congr 2
    show _ = dgF 32 T p i * 32 + (T (p + i) - 96)
    omega
  · intro rec
    dsimp only
    simp only [h5]
    rw [zI_of (n := (enF T L p : Int)) (by omega) (by omega), zI_of (n := ((p + (enF T L p - p) : Nat) : Int)) (by omega) (by omega), if_pos (by omega)]
theorem c_value (h : SC σ T L p) (hn : 4000000 ≤ n) : m_X10_value n σ = some (nvF T p (enF T L p - p)) := by
  obtain ⟨h1, h2, h3, h4, h5, h6, h7, h8, h9⟩ := h
  have he := enF_spec (T := T) h6
  have hz0 : σ 3 0 ≠ 0 := by rw [h9.2]; decide
  unfold m_X10_value
  rw [xlet_eq, h4]
  refine loop_eq (enF T L p - p) (fun i => (nvF T p i, ((p + i : Nat) : Int))) rfl ?_ ?_ (by omega)
  · intro i hi rec
    dsimp only
    simp only [h5, h1]
    rw [zI_of (n := (enF T L p : Int)) (by omega) (by omega), zI_of (n := ((p + i : Nat) : Int)) (by omega) (by omega), if_neg (by omega), xnz_of hz0, xck_of (by omega) (by omega), tn_cast, xlet_eq, xlet_eq]
    congr 2
    show _ = nvF T p i * 10 + (T (p + i) - 48)
    omega
  · intro rec
    dsimp only
    simp only [h5]
    rw [zI_of (n := (enF T L p : Int)) (by omega) (by omega), zI_of (n := ((p + (enF T L p - p) : Nat) : Int)) (by omega) (by omega), if_pos (by omega)]
/-- the token is a number -/
def nbB (T : Nat → Int) (L p : Nat) : Bool := decide (kdF T L p = 2) && decide (enF T L p ≤ p + 4)
theorem c_isNumber (h : SC σ T L p) : m_X10_isNumber σ = if nbB T L p = true then 1 else 0 := by
  have hd := kd_bd (T := T) (L := L) (p := p)
  obtain ⟨h1, h2, h3, h4, h5, h6, h7, h8, h9⟩ := h
  have he := enF_spec (T := T) h6
  unfold m_X10_isNumber nbB
  rw [h3, h4, h5, zI_of (by omega) (by omega), zI_of (by omega) (by omega)]
  by_cases c1 : kdF T L p = 2
  · rw [if_pos c1, decide_eq_true c1, Bool.true_and]
    by_cases c2 : enF T L p ≤ p + 4
    · rw [if_neg (by omega), decide_eq_true c2, if_pos rfl]
    · rw [if_pos (by omega), decide_eq_false c2, if_neg (by decide)]
  · rw [if_neg c1, decide_eq_false c1, Bool.false_and, if_neg (by decide)]
/-- what the letters of a token are -/
theorem run_kind (h : p < L) (h2 : kF (T p) ≤ 2) {i : Nat} (hi : p + i < enF T L p) : kF (T (p + i)) = kF (T p) := by
  have hr := rnF_spec (T := T) (L := L) (k := kF (T p)) (p := p + 1) (by omega)
  unfold enF at hi
  rw [if_pos h, if_pos h2] at hi
  by_cases c : i = 0
  · rw [c]
    rfl
  · exact hr.2.2.1 (p + i) (by omega) hi
theorem kF_1 {x : Int} : kF x = 1 ↔ 97 ≤ x ∧ x ≤ 122 := by
  unfold kF
  repeat' split
  all_goals omega
theorem kF_2 {x : Int} : kF x = 2 ↔ 48 ≤ x ∧ x ≤ 57 := by
  unfold kF
  repeat' split
  all_goals omega
theorem vl_bd (h : nbB T L p = true) : 0 ≤ nvF T p (enF T L p - p) ∧ nvF T p (enF T L p - p) ≤ 9999 := by
  unfold nbB at h
  rw [Bool.and_eq_true, decide_eq_true_eq, decide_eq_true_eq] at h
  have hp : p < L := by
    refine Nat.lt_of_not_le fun z => ?_
    have := h.1
    unfold kdF at this
    rw [if_neg (by omega)] at this
    omega
  have hk : kF (T p) = 2 := by
    have := h.1
    unfold kdF at this
    rw [if_pos hp] at this
    exact this
  have key : ∀ k, k ≤ enF T L p - p → 0 ≤ nvF T p k ∧ nvF T p k + 1 ≤ 10 ^ k := fun k => by
    induction k with
    | zero =>
      intro _
      show (0 : Int) ≤ 0 ∧ (0 : Int) + 1 ≤ 10 ^ 0
      omega
    | succ k ih =>
      intro hk2
      have i1 := ih (by omega)
      have i2 := kF_2.mp ((run_kind hp (by omega) (i := k) (by omega)).trans hk)
      rw [nvF, Int.pow_succ]
      omega
  have h1 := key (enF T L p - p) (Nat.le_refl _)
  have h2 : (10 : Int) ^ (enF T L p - p) ≤ 10000 := by
    have : enF T L p - p = 0 ∨ enF T L p - p = 1 ∨ enF T L p - p = 2 ∨ enF T L p - p = 3 ∨ enF T L p - p = 4 := by omega
    rcases this with z | z | z | z | z <;> rw [z] <;> decide
  omega
end TX2
