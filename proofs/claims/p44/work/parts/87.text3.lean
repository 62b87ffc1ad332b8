/-! what is read at a place: a fault (code, offset), or a value and the next place; the class's parser does so -/
section TX3
abbrev RS0 : Type := (Int × Nat) ⊕ Nat
abbrev RS1 : Type := (Int × Nat) ⊕ (Int × Nat)
def bnd (s : RS0) (g : Nat → RS1) : RS1 := match s with
  | .inl f => .inl f
  | .inr p => g p
def nxS (r : RS1) : RS0 := match r with
  | .inl f => .inl f
  | .inr q => .inr q.2
def vaS (r : RS1) : Int := match r with
  | .inl _ => 0
  | .inr q => q.1
def rNum (T : Nat → Int) (L : Nat) (lo hi : Int) (p : Nat) : RS1 := if nbB T L p = true then (if lo ≤ nvF T p (enF T L p - p) ∧ nvF T p (enF T L p - p) ≤ hi then .inr (nvF T p (enF T L p - p), ntF T L p) else .inl (2, p)) else .inl (1, p)
def rFld (T : Nat → Int) (L : Nat) (w : Int) (lo hi : Int) (p : Nat) : RS1 := if kwF T L p = w then rNum T L lo hi (ntF T L p) else .inl (1, p)
/-- the number of a name among the first ones; as many: none -/
def ixN (T : Nat → Int) (L : Nat) (nm : Nat → Nat × Nat) (cnt p : Nat) : Nat := fsF (fun i => decide (dgF 32 T (nm i).1 (nm i).2 = dgF 32 T p (enF T L p - p))) cnt 0
def rNew (T : Nat → Int) (L : Nat) (nm : Nat → Nat × Nat) (cnt p : Nat) : RS1 := if nmB T L p = true then (if ixN T L nm cnt p < cnt then .inl (3, p) else .inr (0, ntF T L p)) else .inl (1, p)
def rKnw (T : Nat → Int) (L : Nat) (nm : Nat → Nat × Nat) (cnt p : Nat) : RS1 := if nmB T L p = true then (if ixN T L nm cnt p < cnt then .inr ((ixN T L nm cnt p : Int), ntF T L p) else .inl (4, p)) else .inl (1, p)
def rSem (T : Nat → Int) (L p : Nat) : RS1 := if kdF T L p = 3 then .inr (0, ntF T L p) else .inl (1, p)
def rBeg (T : Nat → Int) (L most cnt p : Nat) : RS1 := if cnt < most then .inr (0, ntF T L p) else .inl (5, p)
/-- the class: at a place without fault; with a fault -/
def CG (σ : xS) (T : Nat → Int) (L p : Nat) : Prop := SC σ T L p ∧ σ 2 7 = 0 ∧ σ 2 8 = -1
def CX (σ : xS) (T : Nat → Int) (L : Nat) (f : Int × Nat) : Prop := (∃ p, SC σ T L p) ∧ σ 2 7 = f.1 ∧ σ 2 8 = (f.2 : Int) ∧ 1 ≤ f.1 ∧ f.1 ≤ 5 ∧ f.2 ≤ 1600
def CS (σ : xS) (T : Nat → Int) (L : Nat) (s : RS0) : Prop := match s with
  | .inl f => CX σ T L f
  | .inr p => CG σ T L p
/-- what the parser may change of its own and the scanner's -/
def pfC (σ τ : xS) : Prop := ∀ k j, ¬ (k = 2 ∧ (j = 7 ∨ j = 8)) → ¬ (k = 3 ∧ (j = 2 ∨ j = 3 ∨ j = 4)) → τ k j = σ k j
def CR (τ : xS) (T : Nat → Int) (L : Nat) (r : RS1) (v : Int) : Prop := CS τ T L (nxS r) ∧ ∀ q, r = .inr q → v = q.1
variable {T : Nat → Int} {L p : Nat} {σ τ υ : xS} {n : Nat} {s : RS0} {f : Int × Nat}
theorem pfC_refl : pfC σ σ := fun _ _ _ _ => rfl
theorem pfC_trans (h1 : pfC σ τ) (h2 : pfC τ υ) : pfC σ υ := fun k j c1 c2 => by rw [h2 k j c1 c2]; exact h1 k j c1 c2
theorem pfC_s (h : sfr3 σ τ) : pfC σ τ := fun k j _ c2 => h k j c2
theorem CS_sc (h : CS σ T L s) : ∃ p, SC σ T L p := by
  cases s with
  | inl f => exact h.1
  | inr p => exact ⟨p, h.1⟩
theorem SC_same (h : SC σ T L p) (hs : ∀ k j, (k = 1 ∨ k = 3) → τ k j = σ k j) : SC τ T L p := by
  obtain ⟨h1, h2, h3, h4, h5, h6, h7, h8, h9, h10⟩ := h
  exact ⟨by rw [← h1]; funext j; exact hs _ _ (by omega), by rw [hs _ _ (by omega)]; exact h2, by rw [hs _ _ (by omega)]; exact h3, by rw [hs _ _ (by omega)]; exact h4, by rw [hs _ _ (by omega)]; exact h5, h6, h7, h8, h9, by rw [hs _ _ (by omega)]; exact h10⟩
theorem CS_same (h : CS σ T L s) (hs : ∀ k j, (k = 1 ∨ k = 3 ∨ (k = 2 ∧ (j = 7 ∨ j = 8))) → τ k j = σ k j) : CS τ T L s := by
  cases s with
  | inl f =>
    obtain ⟨⟨p, h1⟩, h2, h3, h4⟩ := h
    exact ⟨⟨p, SC_same h1 (fun k j c => hs k j (by omega))⟩, by rw [hs _ _ (by omega)]; exact h2, by rw [hs _ _ (by omega)]; exact h3, h4⟩
  | inr p =>
    obtain ⟨h1, h2, h3⟩ := h
    exact ⟨SC_same h1 (fun k j c => hs k j (by omega)), by rw [hs _ _ (by omega)]; exact h2, by rw [hs _ _ (by omega)]; exact h3⟩
/-- whether it failed -/
theorem c_failX (h : CX σ T L f) : m_X7_failed σ = 1 := by
  obtain ⟨h1, h2, h3, h4, h5, h6⟩ := h
  unfold m_X7_failed
  rw [h2, zI_of (by omega) (by omega), if_neg (by omega)]
theorem c_failG (h : CG σ T L p) : m_X7_failed σ = 0 := by
  unfold m_X7_failed
  rw [h.2.1, zI_of (by omega) (by omega), if_pos rfl]
def rFail (s : RS0) (c : Int) : RS0 := match s with
  | .inl f => .inl f
  | .inr p => .inl (c, p)
theorem c_fail {c : Int} (h : CS σ T L s) (hc : 1 ≤ c ∧ c ≤ 5) : OK (m_X7_fail c σ) (fun τ => CS τ T L (rFail s c) ∧ pfC σ τ) := by
  unfold m_X7_fail
  rw [xj_eq]
  cases s with
  | inl f =>
    have h' := h
    obtain ⟨h1, h2, h3, h4, h5, h6⟩ := h
    rw [h2, zI_of (by omega) (by omega), if_neg (by omega)]
    exact OK_some ⟨h', pfC_refl⟩
  | inr p =>
    obtain ⟨h1, h2, h3⟩ := h
    have h1' := h1
    obtain ⟨a1, a2, a3, a4, a5, a6, a7, a8⟩ := h1
    rw [h2, zI_of (by omega) (by omega), if_pos rfl, xlet_eq, xlet_eq]
    refine OK_some ⟨⟨⟨p, SC_same h1' (fun k j c => by rw [xput_ne (by omega), xput_ne (by omega)])⟩, by rw [xput_ne (by omega), xput_eq], ?_, hc.1, hc.2, by show p ≤ 1600; omega⟩, fun k j c1 c2 => by rw [xput_ne (by omega), xput_ne (by omega)]⟩
    rw [xput_eq, xput_ne (by omega), a4]
theorem c_nextS (h : CG σ T L p) (hn : 4000000 ≤ n) : OK (m_X10_next n σ) (fun τ => CG τ T L (ntF T L p) ∧ pfC σ τ) :=
  OK_mono (c_tnext h.1 hn) fun τ g => ⟨⟨g.1, by rw [g.2 _ _ (by omega)]; exact h.2.1, by rw [g.2 _ _ (by omega)]; exact h.2.2⟩, pfC_s g.2⟩
theorem c_readNumber {lo hi : Int} (h : CS σ T L s) (hlo : 0 ≤ lo ∧ lo ≤ hi ∧ hi ≤ 10000) (hn : 4000000 ≤ n) : OK (m_X7_readNumber n lo hi σ) (fun x => CR x.2 T L (bnd s (rNum T L lo hi)) x.1 ∧ pfC σ x.2) := by
  obtain ⟨p, hsc⟩ := CS_sc h
  -- the rest, behind the first test
  have rest : ∀ (τ : xS) (s' : RS0), CS τ T L s' → pfC σ τ → (∀ q, s' = .inr q → nbB T L q = true) → OK ((fun (q4 : xS) => (m_X10_value n q4).bind fun v5 => xj (fun (q10 : xS) => if (m_X7_failed q10) = 0 then (m_X10_next n q10).bind fun s12 => some (v5, s12) else some (lo, q10)) fun J8 => xj (fun (q15 : Unit) => (m_X7_fail 2 q4).bind fun s16 => J8 s16) fun J13 => if (zI v5) < (zI lo) then J13 () else if (zI v5) ≤ (zI hi) then J8 q4 else J13 ()) τ) (fun x => CR x.2 T L (bnd s' (rNum T L lo hi)) x.1 ∧ pfC σ x.2) := fun τ s' hs hp hnb => by
    obtain ⟨p', hsc'⟩ := CS_sc hs
    try dsimp only
    rw [c_value hsc' hn, bind_some', xj_eq, xj_eq]
    cases s' with
    | inl f =>
      have hno : ∀ υ : xS, CX υ T L f → pfC σ υ → ∀ v5 : Int, OK (if (m_X7_failed υ) = 0 then (m_X10_next n υ).bind fun s12 => some (v5, s12) else some (lo, υ)) (fun x => CR x.2 T L (.inl f) x.1 ∧ pfC σ x.2) := fun υ hu hpu v5 => by
        rw [c_failX hu, if_neg (by omega)]
        exact OK_some ⟨⟨hu, fun q e => by cases e⟩, hpu⟩
      have hfail : OK ((m_X7_fail 2 τ).bind fun s16 => if (m_X7_failed s16) = 0 then (m_X10_next n s16).bind fun s12 => some (nvF T p' (enF T L p' - p'), s12) else some (lo, s16)) (fun x => CR x.2 T L (.inl f) x.1 ∧ pfC σ x.2) := by
        refine OK_bind (c_fail (c := 2) hs (by omega)) (fun υ g => ?_)
        exact hno υ g.1 (pfC_trans hp g.2) _
      by_cases c1 : zI (nvF T p' (enF T L p' - p')) < zI lo
      · rw [if_pos c1]
        exact hfail
      · rw [if_neg c1]
        by_cases c2 : zI (nvF T p' (enF T L p' - p')) ≤ zI hi
        · rw [if_pos c2]
          exact hno τ hs hp _
        · rw [if_neg c2]
          exact hfail
    | inr q =>
      have hq := hnb q rfl
      have hpq : p' = q := by
        have a := hsc'.2.2.2.1
        have b := hs.1.2.2.2.1
        omega
      subst hpq
      have hvb := vl_bd hq
      rw [zI_of (n := nvF T p' (enF T L p' - p')) (by omega) (by omega), zI_of (n := lo) (by omega) (by omega), zI_of (n := hi) (by omega) (by omega)]
      have hfail : ¬ (lo ≤ nvF T p' (enF T L p' - p') ∧ nvF T p' (enF T L p' - p') ≤ hi) → OK ((m_X7_fail 2 τ).bind fun s16 => if (m_X7_failed s16) = 0 then (m_X10_next n s16).bind fun s12 => some (nvF T p' (enF T L p' - p'), s12) else some (lo, s16)) (fun x => CR x.2 T L (bnd (.inr p') (rNum T L lo hi)) x.1 ∧ pfC σ x.2) := fun hr => by
        have e : bnd (.inr p') (rNum T L lo hi) = .inl (2, p') := by
          show rNum T L lo hi p' = _
          unfold rNum
          rw [if_pos hq, if_neg hr]
        rw [e]
        refine OK_bind (c_fail (c := 2) hs (by omega)) (fun υ g => ?_)
        have gf : CS υ T L (.inl (2, p')) := g.1
        rw [c_failX gf, if_neg (by omega)]
        exact OK_some ⟨⟨gf, fun q e => by cases e⟩, pfC_trans hp g.2⟩
      by_cases c1 : nvF T p' (enF T L p' - p') < lo
      · rw [if_pos c1]
        exact hfail (by omega)
      · rw [if_neg c1]
        by_cases c2 : nvF T p' (enF T L p' - p') ≤ hi
        · have e : bnd (.inr p') (rNum T L lo hi) = .inr (nvF T p' (enF T L p' - p'), ntF T L p') := by
            show rNum T L lo hi p' = _
            unfold rNum
            rw [if_pos hq, if_pos ⟨by omega, c2⟩]
          rw [if_pos c2, e]
          try dsimp only
          rw [c_failG hs, if_pos rfl]
          refine OK_bind (c_nextS hs hn) (fun υ g => ?_)
          exact OK_some ⟨⟨g.1, fun q e => by cases e; rfl⟩, pfC_trans hp g.2⟩
        · rw [if_neg c2]
          exact hfail (by omega)
  unfold m_X7_readNumber
  rw [xj_eq, c_isNumber hsc]
  by_cases c : nbB T L p = true
  · rw [if_pos c, if_neg (by omega)]
    refine rest σ s h pfC_refl (fun q e => ?_)
    subst e
    have a := hsc.2.2.2.1
    have b := h.1.2.2.2.1
    have : q = p := by omega
    rw [this]
    exact c
  · rw [if_neg c, if_pos rfl]
    refine OK_bind (c_fail (c := 1) h (by omega)) (fun υ g => ?_)
    have hr := rest υ (rFail s 1) g.1 g.2 (fun q e => by cases s <;> cases e)
    cases s with
    | inl f => exact hr
    | inr q =>
      have hq : q = p := by
        have a := hsc.2.2.2.1
        have b := h.1.2.2.2.1
        omega
      have e : bnd (.inr q) (rNum T L lo hi) = .inl (1, q) := by
        show rNum T L lo hi q = _
        unfold rNum
        rw [hq, if_neg c]
      rw [e]
      exact hr
theorem SC_at {q : Nat} (h1 : SC σ T L p) (h2 : SC σ T L q) : q = p := by
  have a := h1.2.2.2.1
  have b := h2.2.2.2.1
  omega
theorem c_readField {w : Nat} {lo hi : Int} (h : CS σ T L s) (hlo : 0 ≤ lo ∧ lo ≤ hi ∧ hi ≤ 10000) (hn : 4000000 ≤ n) : OK (m_X7_readField n w lo hi σ) (fun x => CR x.2 T L (bnd s (rFld T L w lo hi)) x.1 ∧ pfC σ x.2) := by
  obtain ⟨p, hsc⟩ := CS_sc h
  have hb := kw_bd (T := T) (L := L) (p := p)
  unfold m_X7_readField
  rw [c_keyword hsc hn, bind_some', xwd_of (by omega) (by omega), xj_eq]
  have bad : ∀ (υ : xS) (g : Int × Nat), CX υ T L g → pfC σ υ → OK ((fun (q6 : xS) => if (m_X7_failed q6) = 0 then (m_X10_next n q6).bind fun s8 => xbS (m_X7_readNumber n lo hi s8) fun v10 s9 => some (v10, s9) else some (lo, q6)) υ) (fun x => CR x.2 T L (.inl g) x.1 ∧ pfC σ x.2) := fun υ g hu hp => by
    try dsimp only
    rw [c_failX hu, if_neg (by omega)]
    exact OK_some ⟨⟨hu, fun q e => by cases e⟩, hp⟩
  by_cases c : kwF T L p = (w : Int)
  · rw [if_pos c]
    cases s with
    | inl f => exact bad σ f h pfC_refl
    | inr q =>
      have hq := SC_at hsc h.1
      subst hq
      have e : bnd (.inr q) (rFld T L w lo hi) = bnd (.inr (ntF T L q)) (rNum T L lo hi) := by
        show rFld T L w lo hi q = rNum T L lo hi (ntF T L q)
        unfold rFld
        rw [if_pos c]
      try dsimp only
      rw [c_failG h, if_pos rfl, e]
      refine OK_bind (c_nextS h hn) (fun υ g => ?_)
      refine OK_xbS (c_readNumber (s := .inr (ntF T L q)) g.1 hlo hn) (fun v y k => ?_)
      exact OK_some ⟨k.1, pfC_trans g.2 k.2⟩
  · rw [if_neg c]
    refine OK_bind (c_fail (c := 1) h (by omega)) (fun υ g => ?_)
    cases s with
    | inl f => exact bad υ f g.1 g.2
    | inr q =>
      have hq := SC_at hsc h.1
      subst hq
      have e : bnd (.inr q) (rFld T L w lo hi) = .inl (1, q) := by
        show rFld T L w lo hi q = _
        unfold rFld
        rw [if_neg c]
      rw [e]
      exact bad υ (1, q) g.1 g.2
theorem c_readSemicolon (h : CS σ T L s) (hn : 4000000 ≤ n) : OK (m_X7_readSemicolon n σ) (fun τ => CS τ T L (nxS (bnd s (rSem T L))) ∧ pfC σ τ) := by
  obtain ⟨p, hsc⟩ := CS_sc h
  have hd := kd_bd (T := T) (L := L) (p := p)
  have h32 := hsc.2.2.1
  unfold m_X7_readSemicolon
  rw [xj_eq, h32, zI_of (by omega) (by omega)]
  have bad : ∀ (υ : xS) (g : Int × Nat), CX υ T L g → pfC σ υ → OK ((fun (q4 : xS) => xj (fun (q8 : xS) => some q8) fun J6 => if (m_X7_failed q4) = 0 then (m_X10_next n q4).bind fun s10 => J6 s10 else J6 q4) υ) (fun τ => CS τ T L (.inl g) ∧ pfC σ τ) := fun υ g hu hp => by
    try dsimp only
    rw [xj_eq, c_failX hu, if_neg (by omega)]
    exact OK_some ⟨hu, hp⟩
  by_cases c : kdF T L p = 3
  · rw [if_pos c]
    cases s with
    | inl f => exact bad σ f h pfC_refl
    | inr q =>
      have hq := SC_at hsc h.1
      subst hq
      have e : nxS (bnd (.inr q) (rSem T L)) = .inr (ntF T L q) := by
        show nxS (rSem T L q) = _
        unfold rSem
        rw [if_pos c]
        rfl
      try dsimp only
      rw [xj_eq, c_failG h, if_pos rfl, e]
      refine OK_bind (c_nextS h hn) (fun υ g => ?_)
      exact OK_some ⟨g.1, g.2⟩
  · rw [if_neg c]
    refine OK_bind (c_fail (c := 1) h (by omega)) (fun υ g => ?_)
    cases s with
    | inl f => exact bad υ f g.1 g.2
    | inr q =>
      have hq := SC_at hsc h.1
      subst hq
      have e : nxS (bnd (.inr q) (rSem T L)) = .inl (1, q) := by
        show nxS (rSem T L q) = _
        unfold rSem
        rw [if_neg c]
        rfl
      rw [e]
      exact bad υ (1, q) g.1 g.2
theorem c_beginOneOf {most cnt : Nat} (h : CG σ T L p) (hm : most ≤ 100 ∧ cnt ≤ 100) (hn : 4000000 ≤ n) : OK (m_X7_beginOneOf n most cnt σ) (fun τ => CS τ T L (nxS (rBeg T L most cnt p)) ∧ pfC σ τ) := by
  unfold m_X7_beginOneOf rBeg
  rw [xj_eq, zI_of (n := (cnt : Int)) (by omega) (by omega), zI_of (n := (most : Int)) (by omega) (by omega)]
  by_cases c : cnt < most
  · rw [if_pos (by omega), if_pos c]
    refine OK_bind (c_nextS h hn) (fun υ g => ?_)
    exact OK_some ⟨g.1, g.2⟩
  · rw [if_neg (by omega), if_neg c]
    refine OK_bind (c_fail (s := .inr p) (c := 5) h (by omega)) (fun υ g => ?_)
    exact OK_some ⟨g.1, g.2⟩
end TX3
