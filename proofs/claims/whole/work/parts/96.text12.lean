/-! the reference reads bytes and words -/
section TX12
variable {T : Nat → Int} {L p : Nat} {σ τ υ : xS} {n b : Nat}
/-- a byte of the text as the reference sees it -/
def byT (T : Nat → Int) (L i : Nat) : Int := if i < L then (if T i < 0 then T i + 256 else T i) else -1
theorem zand_tab : ∀ w : Fin 256, zand ((w.val : Int) - 128) 255 = if w.val < 128 then (w.val : Int) + 128 else (w.val : Int) - 128 := by decide +kernel
theorem zand_255 {x : Int} (h : -128 ≤ x ∧ x ≤ 127) : zand x 255 = if x < 0 then x + 256 else x := by
  have := zand_tab ⟨(x + 128).toNat, by omega⟩
  dsimp only at this
  have e : ((x + 128).toNat : Int) = x + 128 := by omega
  rw [e, show x + 128 - 128 = x from by omega] at this
  rw [this]
  split <;> split <;> omega
/-- the text, as the reference keeps it -/
def rtB (σ : xS) (T : Nat → Int) (L : Nat) : Prop := σ 189 = T ∧ σ 184 10 = (L : Int) ∧ L ≤ 1600 ∧ ∀ q, -128 ≤ T q ∧ T q ≤ 127
theorem byT_bd (hT : ∀ q, -128 ≤ T q ∧ T q ≤ 127) {i : Nat} : -1 ≤ byT T L i ∧ byT T L i ≤ 255 := by
  have := hT i
  unfold byT
  repeat' split
  all_goals omega
theorem r_byteAt (h : rtB σ T L) {i : Nat} (hi : i ≤ 100000) : m_X13_byteAt (i : Int) σ = some (byT T L i) := by
  obtain ⟨h1, h2, h3, h4⟩ := h
  unfold m_X13_byteAt byT
  rw [xj_eq]
  dsimp only
  rw [h2, zI_of (n := (L : Int)) (by omega) (by omega), zI_of (n := (i : Int)) (by omega) (by omega)]
  by_cases c : i < L
  · rw [if_neg (by omega), if_pos c, xck_of (by omega) (by omega), tn_cast, h1, zand_255 (h4 i)]
  · rw [if_pos (by omega), if_neg c]
theorem r_here (h : rtB σ T L) (hp : σ 184 11 = (p : Int)) (hpL : p ≤ L) : m_X13_here σ = some (byT T L p) := by
  unfold m_X13_here
  rw [hp, r_byteAt h (by have := h.2.2.1; omega)]
  rfl
theorem ws_iff {i : Nat} (hi : i < L) (hT : ∀ q, -128 ≤ T q ∧ T q ≤ 127) : (byT T L i = 32 ∨ byT T L i = 10) ↔ kF (T i) = 4 := by
  have := hT i
  unfold byT kF
  rw [if_pos hi]
  repeat' split
  all_goals omega
theorem lt_iff {i : Nat} (hT : ∀ q, -128 ≤ T q ∧ T q ≤ 127) : (97 ≤ byT T L i ∧ byT T L i ≤ 122) ↔ (i < L ∧ kF (T i) = 1) := by
  have := hT i
  unfold byT kF
  repeat' split
  all_goals omega
theorem dg_iff {i : Nat} (hT : ∀ q, -128 ≤ T q ∧ T q ≤ 127) : (48 ≤ byT T L i ∧ byT T L i ≤ 57) ↔ (i < L ∧ kF (T i) = 2) := by
  have := hT i
  unfold byT kF
  repeat' split
  all_goals omega
theorem by_eq {i : Nat} (hT : ∀ q, -128 ≤ T q ∧ T q ≤ 127) {x : Int} (hx : 0 ≤ x ∧ x ≤ 127) : byT T L i = x ↔ (i < L ∧ T i = x) := by
  have := hT i
  unfold byT
  repeat' split
  all_goals omega
/-- what reading a word or blanks may change -/
def rtf (σ τ : xS) : Prop := ∀ k j, ¬ (k = 184 ∧ (j = 11 ∨ j = 12 ∨ j = 13 ∨ j = 14)) → τ k j = σ k j
def rt1 (σ τ : xS) : Prop := ∀ k j, ¬ (k = 184 ∧ j = 11) → τ k j = σ k j
theorem rtB_same (h : rtB σ T L) (hs : ∀ k j, (k = 189 ∨ (k = 184 ∧ j = 10)) → τ k j = σ k j) : rtB τ T L :=
  ⟨by funext j; rw [hs _ _ (Or.inl rfl), h.1], by rw [hs _ _ (Or.inr ⟨rfl, rfl⟩), h.2.1], h.2.2⟩
theorem r_skips (h : rtB σ T L) (hp : σ 184 11 = (p : Int)) (hpL : p ≤ L) (hn : 4000000 ≤ n) : OK (m_X13_skips n σ) (fun τ => τ 184 11 = (skF T L p : Int) ∧ rt1 σ τ) := by
  obtain ⟨s1, s2, s3, s4⟩ := skF_spec (T := T) (L := L) (p := p) hpL
  have hT := h.2.2.2
  have hL := h.2.2.1
  unfold m_X13_skips
  refine loop_for (skF T L p - p) (fun i (t : xS) => t 184 11 = ((p + i : Nat) : Int) ∧ rt1 σ t) ?_ ?_ (by omega) ⟨hp, fun _ _ _ => rfl⟩
  · rintro i t hi ⟨g1, g2⟩ rec hrec
    have hB : rtB t T L := rtB_same h (fun k j hk => g2 k j (by omega))
    have hk := s3 (p + i) (by omega) (by omega)
    have hw := (ws_iff (L := L) (i := p + i) (by omega) hT).mpr hk
    have hb := byT_bd (L := L) hT (i := p + i)
    have hgo : OK ((fun (_ : Unit) => xlet (xput t 184 11 ((t 184 11) + 1)) fun s9 => rec s9) ()) (fun τ => τ 184 11 = (skF T L p : Int) ∧ rt1 σ τ) := by
      dsimp only
      rw [xlet_eq]
      refine hrec _ ⟨?_, fun k j hk => ?_⟩
      · rw [xput_eq, g1]
        omega
      · rw [xput_ne hk]
        exact g2 k j hk
    rw [r_here hB g1 (by omega), bind_some', xj_eq, zI_of (n := byT T L (p + i)) (by omega) (by omega)]
    rcases hw with e | e
    · rw [if_pos e]
      exact hgo
    · rw [if_neg (by omega), bind_some', zI_of (n := byT T L (p + i)) (by omega) (by omega), if_pos e]
      exact hgo
  · rintro t ⟨g1, g2⟩ rec
    have hP : p + (skF T L p - p) = skF T L p := by omega
    rw [hP] at g1
    have hB : rtB t T L := rtB_same h (fun k j hk => g2 k j (by omega))
    have hb := byT_bd (L := L) hT (i := skF T L p)
    have hw : ¬ (byT T L (skF T L p) = 32 ∨ byT T L (skF T L p) = 10) := fun z => by
      by_cases c : skF T L p < L
      · exact s4 c ((ws_iff c hT).mp z)
      · unfold byT at z
        rw [if_neg c] at z
        omega
    rw [r_here hB g1 (by omega), bind_some', xj_eq, zI_of (n := byT T L (skF T L p)) (by omega) (by omega), if_neg (by omega), bind_some', zI_of (n := byT T L (skF T L p)) (by omega) (by omega), if_neg (by omega)]
    exact OK_some ⟨g1, g2⟩
/-- the length of the word here -/
def wlT (T : Nat → Int) (L p : Nat) : Nat := if kdF T L p = 1 then enF T L p - p else 0
theorem wlT_spec (hp : p ≤ L) : (∀ i, i < wlT T L p → p + i < L ∧ kF (T (p + i)) = 1) ∧ ¬ (p + wlT T L p < L ∧ kF (T (p + wlT T L p)) = 1) ∧ p + wlT T L p ≤ L := by
  unfold wlT
  by_cases h : kdF T L p = 1
  · rw [if_pos h]
    have hlt : p < L := by
      refine Nat.lt_of_not_le fun z => ?_
      unfold kdF at h
      rw [if_neg (by omega)] at h
      omega
    have hk : kF (T p) = 1 := by
      unfold kdF at h
      rw [if_pos hlt] at h
      exact h
    obtain ⟨e1, e2, e3⟩ := enF_spec (T := T) hp
    have he : enF T L p = rnF T L 1 (p + 1) := by
      unfold enF
      rw [if_pos hlt, hk, if_pos (by omega)]
    obtain ⟨r1, r2, r3, r4⟩ := rnF_spec (T := T) (k := 1) (show p + 1 ≤ L by omega)
    rw [← he] at r1 r2 r3 r4
    have hs : p + (enF T L p - p) = enF T L p := by omega
    rw [hs]
    refine ⟨fun i hi => ⟨by omega, ?_⟩, fun z => r4 z.1 z.2, e2⟩
    by_cases e : i = 0
    · rw [e]
      exact hk
    · exact r3 _ (by omega) (by omega)
  · rw [if_neg h]
    refine ⟨fun i hi => absurd hi (Nat.not_lt_zero _), fun z => h ?_, hp⟩
    unfold kdF
    rw [if_pos (show p < L from z.1)]
    exact z.2
theorem r_isLetter {x : Int} (h1 : -1 ≤ x) (h2 : x ≤ 255) : m_X13_isLetter x = if 97 ≤ x ∧ x ≤ 122 then 1 else 0 := by
  unfold m_X13_isLetter
  rw [zI_of (n := x) (by omega) (by omega), r_isIn (by omega) (by omega) (by omega) (by omega) (by omega) (by omega)]
theorem r_wordLength (h : rtB σ T L) (hp : σ 184 11 = (p : Int)) (hpL : p ≤ L) (hn : 4000000 ≤ n) : m_X13_wordLength n σ = some (wlT T L p : Int) := by
  obtain ⟨w1, w2, w3⟩ := wlT_spec (T := T) hpL
  have hT := h.2.2.2
  have hL := h.2.2.1
  unfold m_X13_wordLength
  refine loop_eq (wlT T L p) (fun i => (i : Int)) rfl ?_ ?_ (by omega)
  · intro i hi rec
    have hl := (lt_iff hT).mpr (w1 i hi)
    have hb := byT_bd (L := L) hT (i := p + i)
    rw [hp, show (p : Int) + (i : Int) = ((p + i : Nat) : Int) from by omega, r_byteAt h (by omega), bind_some', r_isLetter (by omega) (by omega), if_pos hl, if_neg (by omega), xlet_eq]
    rfl
  · intro rec
    have hl : ¬ (97 ≤ byT T L (p + wlT T L p) ∧ byT T L (p + wlT T L p) ≤ 122) := fun z => w2 ((lt_iff hT).mp z)
    have hb := byT_bd (L := L) hT (i := p + wlT T L p)
    rw [hp, show (p : Int) + (wlT T L p : Int) = ((p + wlT T L p : Nat) : Int) from by omega, r_byteAt h (by omega), bind_some', r_isLetter (by omega) (by omega), if_neg hl, if_pos rfl]
theorem r_fine {c : Int} (h : σ 184 12 = c) (hc : 0 ≤ c ∧ c ≤ 5) : m_X13_fine σ = if c = 0 then 1 else 0 := by
  unfold m_X13_fine
  rw [h, zI_of (by omega) (by omega)]
theorem r_isWord0 {c : Int} (h : σ 184 12 = c) (hc : 1 ≤ c ∧ c ≤ 5) {w : Nat} : m_X13_isWord n w σ = some 0 := by
  unfold m_X13_isWord
  rw [xj_eq, r_fine h (by omega), if_neg (show ¬ c = 0 by omega), if_pos rfl]
theorem r_isWord (h : rtB σ T L) (hp : σ 184 11 = (p : Int)) (hpL : p ≤ L) (h0 : σ 184 12 = 0) {w : Nat} (hw : w < 24) (hn : 4000000 ≤ n) : m_X13_isWord n w σ = some (if iwB T L p w = true then 1 else 0) := by
  have hT := h.2.2.2
  have hL := h.2.2.1
  obtain ⟨q1, q2, q3⟩ := wl_tab ⟨w, hw⟩
  dsimp only at q1 q2 q3
  obtain ⟨w1, w2, w3⟩ := wlT_spec (T := T) hpL
  unfold m_X13_isWord
  rw [xj_eq, r_fine h0 (by omega), if_pos rfl, if_neg (by omega), r_wordLength h hp hpL hn, bind_some', zI_of (n := (wlT T L p : Int)) (by omega) (by omega), q2]
  by_cases c : wlT T L p = wl w
  · rw [if_pos (by omega)]
    have hk : kdF T L p = 1 := by
      unfold wlT at c
      by_cases z : kdF T L p = 1
      · exact z
      · rw [if_neg z] at c
        omega
    have he : enF T L p = p + wl w := by
      unfold wlT at c
      rw [if_pos hk] at c
      have := (enF_spec (T := T) hpL).1
      omega
    -- the first letter that differs
    obtain ⟨-, j1, j3, j2⟩ := fsF_spec (fun j => decide (T (p + j) ≠ wc w j)) (wl w) 0
    generalize hJ : fsF (fun j => decide (T (p + j) ≠ wc w j)) (wl w) 0 = J at j1 j2 j3
    refine loop_eq J (fun i => (i : Int)) rfl ?_ ?_ (by omega)
    · intro i hi rec
      have hc := wc_tab ⟨w, hw⟩ ⟨i, by omega⟩ (by dsimp only; omega)
      dsimp only at hc
      have hd := j2 i (by omega) hi
      have hT' : T (p + i) = wc w i := by
        by_cases z : T (p + i) = wc w i
        · exact z
        · exact absurd hd (by simp [z])
      rw [zI_of (n := (i : Int)) (by omega) (by omega), if_neg (by omega), hp, show (p : Int) + (i : Int) = ((p + i : Nat) : Int) from by omega, r_byteAt h (by omega), bind_some', hc.2, bind_some', zI_of (n := wc w i) (by omega) (by omega)]
      have hb := (by_eq (L := L) hT (i := p + i) (x := wc w i) (by omega)).mpr ⟨by omega, hT'⟩
      rw [hb, zI_of (n := wc w i) (by omega) (by omega), if_pos rfl, xlet_eq]
      rfl
    · intro rec
      rw [zI_of (n := (J : Int)) (by omega) (by omega)]
      by_cases e : J < wl w
      · have hc := wc_tab ⟨w, hw⟩ ⟨J, by omega⟩ (by dsimp only; omega)
        dsimp only at hc
        have hd := j3 (by omega)
        have hne : T (p + J) ≠ wc w J := of_decide_eq_true hd
        have hbd := byT_bd (L := L) hT (i := p + J)
        have hb : byT T L (p + J) ≠ wc w J := fun z => hne ((by_eq (L := L) hT (by omega)).mp z).2
        rw [if_neg (by omega), hp, show (p : Int) + (J : Int) = ((p + J : Nat) : Int) from by omega, r_byteAt h (by omega), bind_some', hc.2, bind_some', zI_of (n := wc w J) (by omega) (by omega), zI_of (n := byT T L (p + J)) (by omega) (by omega), if_neg hb, if_neg (fun z => hne ((iwB_iff.mp z).2.2 J e))]
      · rw [if_pos (by omega), if_pos]
        refine iwB_iff.mpr ⟨hk, he, fun j hj => ?_⟩
        have hd := j2 j (by omega) (by omega)
        by_cases z : T (p + j) = wc w j
        · exact z
        · exact absurd hd (by simp [z])
  · rw [if_neg (by omega), if_neg]
    intro z
    obtain ⟨z1, z2, -⟩ := iwB_iff.mp z
    apply c
    unfold wlT
    rw [if_pos z1]
    omega
end TX12
