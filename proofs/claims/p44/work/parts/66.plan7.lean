/-! the best plan and the best slack, mathematically; the class carries and begins -/
section PL7
def fzB (L C : Nat → Int) : Nat → Bool
  | 0 => true
  | k + 1 => fzB L C k && decide (L k ≤ C k)
theorem fzB_iff {L C : Nat → Int} : ∀ k, fzB L C k = true ↔ ∀ v, v < k → L v ≤ C v
  | 0 => ⟨fun _ v h => absurd h (Nat.not_lt_zero _), fun _ => rfl⟩
  | k + 1 => by
    rw [fzB, Bool.and_eq_true, decide_eq_true_eq, fzB_iff k]
    constructor
    · intro h v hv
      by_cases e : v = k
      · rw [e]; exact h.2
      · exact h.1 v (by omega)
    · intro h
      exact ⟨fun v hv => h v (by omega), h k (by omega)⟩
/-- the number of the best of the first ones; none: -1 -/
def bsI (fz : Nat → Bool) (la mi : Nat → Int) : Nat → Int
  | 0 => -1
  | i + 1 => if fz i = true ∧ (bsI fz la mi i = -1 ∨ la i < la (bsI fz la mi i).toNat ∨ (la i = la (bsI fz la mi i).toNat ∧ mi i < mi (bsI fz la mi i).toNat)) then (i : Int) else bsI fz la mi i
def bsS (fz : Nat → Bool) (sl : Nat → Int) : Nat → Int
  | 0 => -1
  | i + 1 => if fz i = true then max (bsS fz sl i) (sl i) else bsS fz sl i
theorem bsI_bd (fz : Nat → Bool) (la mi : Nat → Int) : ∀ i, -1 ≤ bsI fz la mi i ∧ bsI fz la mi i < i
  | 0 => ⟨Int.le_refl _, by show (-1 : Int) < 0; omega⟩
  | i + 1 => by
    have ih := bsI_bd fz la mi i
    rw [bsI]
    split <;> omega
/-- all that a plan depends on: ways, shops, when shops are ready, due, their loads, what the vans carry, the served shops, the vans -/
abbrev PP : Type := (Nat → Nat → Int) × Nat × (Nat → Int) × (Nat → Int) × (Nat → Int) × (Nat → Int) × Nat × Nat
abbrev qD (P : PP) : Nat → Nat → Int := P.1
abbrev qS (P : PP) : Nat := P.2.1
abbrev qRd (P : PP) : Nat → Int := P.2.2.1
abbrev qU (P : PP) : Nat → Int := P.2.2.2.1
abbrev qL (P : PP) : Nat → Int := P.2.2.2.2.1
abbrev qC (P : PP) : Nat → Int := P.2.2.2.2.2.1
abbrev qM (P : PP) : Nat := P.2.2.2.2.2.2.1
abbrev qV (P : PP) : Nat := P.2.2.2.2.2.2.2
def v1 (V : Nat) : Nat := if V = 0 then 1 else V
def qA (P : PP) (i : Nat) : Nat → Nat := asA (qM P) (v1 (qV P)) i
def qG (P : PP) (i v : Nat) : Nat := sgA (qM P) (qA P i) v
def qFz (P : PP) (i : Nat) : Bool := fzB (fun v => pLo (qL P) (qG P i v)) (qC P) (qV P)
def qLa (P : PP) (i : Nat) : Int := sumTo (qV P) (fun v => pLa (qD P) (qS P) (qRd P) (qU P) (qG P i v))
def qMi (P : PP) (i : Nat) : Int := sumTo (qV P) (fun v => rsF (qD P) (qS P) (qG P i v) 7)
def qSl (P : PP) (i : Nat) : Int := minTo 1439 (qV P) (fun v => pSl (qD P) (qS P) (qRd P) (qU P) (qG P i v))
def qW (P : PP) : Nat := if rsF (qD P) (qS P) (qM P) 7 < 1000000 then pwA (qM P) (qV P) 7 else 0
def qB (P : PP) : Int := bsI (qFz P) (qLa P) (qMi P) (qW P)
def qT (P : PP) : Int := bsS (qFz P) (qSl P) (qW P)
/-- what holds of it -/
def PPV (P : PP) : Prop := Fb 8 (qD P) ∧ qS P ≤ 7 ∧ qM P < 2 ^ qS P ∧ qV P ≤ 3 ∧ (∀ s, s < 7 → (0 ≤ qU P s ∧ qU P s ≤ 1000000) ∧ (0 ≤ qL P s ∧ qL P s ≤ 4800) ∧ (0 ≤ qRd P s ∧ qRd P s ≤ 500000)) ∧ (∀ v, v < qV P → 0 ≤ qC P v ∧ qC P v ≤ 1002000)
theorem v1_pos (V : Nat) : 0 < v1 V := by
  unfold v1
  split <;> omega
theorem v1_le {V : Nat} (h : V ≤ 3) : v1 V ≤ 3 := by
  unfold v1
  split <;> omega
variable {P : PP}
theorem PP_m (hP : PPV P) : qM P < 128 := pow_le7 hP.2.1 hP.2.2.1
theorem qG_lt (hP : PPV P) (i v : Nat) : qG P i v < 2 ^ qS P := sgA_pow hP.2.1 hP.2.2.1 _ _
theorem qG_128 (i v : Nat) : qG P i v < 128 := sgA_lt _ _
theorem qG_sb (i v : Nat) : sbP (qG P i v) (qM P) := sgA_sb _ _
theorem qW_v (hP : PPV P) {i : Nat} (hi : i < qW P) : (qM P = 0 ∨ v1 (qV P) = qV P) ∧ i < pwA (qM P) (v1 (qV P)) 7 := by
  unfold qW at hi
  split at hi
  · have hV := hP.2.2.2.1
    by_cases c : qV P = 0
    · have ht : pwA (qM P) 0 7 = 0 ^ bcN (qM P) := pw_tab ⟨qM P, PP_m hP⟩ ⟨0, by omega⟩
      rw [c, ht] at hi
      have hz : bcN (qM P) = 0 := by
        refine Nat.eq_zero_of_not_pos fun h => ?_
        rw [Nat.zero_pow h] at hi
        exact absurd hi (Nat.not_lt_zero _)
      have hm := bcN_0 (PP_m hP) hz
      refine ⟨Or.inl hm, ?_⟩
      rw [hz, Nat.pow_zero] at hi
      rw [hm, pwA_0]
      exact hi
    · have e : v1 (qV P) = qV P := if_neg c
      rw [e]
      exact ⟨Or.inr rfl, hi⟩
  · exact absurd hi (Nat.not_lt_zero _)
theorem qW_le (hP : PPV P) : qW P ≤ 2187 := by
  have hm := bcN_le (PP_m hP)
  have hV := hP.2.2.2.1
  unfold qW
  split
  · have ht : pwA (qM P) (qV P) 7 = (qV P) ^ bcN (qM P) := pw_tab ⟨qM P, PP_m hP⟩ ⟨qV P, by omega⟩
    rw [ht]
    have h1 : (qV P) ^ bcN (qM P) ≤ 3 ^ bcN (qM P) := Nat.pow_le_pow_left hV _
    have h2 : 3 ^ bcN (qM P) ≤ 3 ^ 7 := Nat.pow_le_pow_right (by omega) hm
    omega
  · omega
theorem pLo_bd {ld : Nat → Int} {m : Nat} (h : ∀ s, s < 7 → 0 ≤ ld s ∧ ld s ≤ 4800) : 0 ≤ pLo ld m ∧ pLo ld m ≤ 33600 := by
  have := sumTo_bd (n := 7) (f := fun s => if m.testBit s = true then ld s else 0) (lo := 0) (hi := 4800) (fun i hi => by
    have := h i hi
    split <;> omega)
  unfold pLo
  omega
theorem pLa_bd {D : Nat → Nat → Int} {S : Nat} {rd du : Nat → Int} {m : Nat} : 0 ≤ pLa D S rd du m ∧ pLa D S rd du m ≤ 7 := by
  have := sumTo_bd (n := 7) (f := fun s => if m.testBit s = true ∧ du s < dpF rd m + arF D S m s then (1 : Int) else 0) (lo := 0) (hi := 1) (fun i hi => by split <;> omega)
  unfold pLa
  omega
theorem pSl_bd (hP : PPV P) {m : Nat} (hm : m < 2 ^ qS P) : -8000000 ≤ pSl (qD P) (qS P) (qRd P) (qU P) m ∧ pSl (qD P) (qS P) (qRd P) (qU P) m ≤ 1439 := by
  have hdp := dpF_bd (m := m) (rd := qRd P) (fun s hs => (hP.2.2.2.2.1 s hs).2.2)
  unfold pSl
  refine ⟨minTo_ge (by omega) _ fun i hi => ?_, minTo_le _⟩
  have h1 := (hP.2.2.2.2.1 i hi).1
  have h2 := arF_bd hP.2.1 hP.1 hm i
  try dsimp only
  split <;> omega
/-- the class's bakery and plan hold it -/
def CP (σ : xS) (q b : Nat) (P : PP) : Prop := RM σ (b + 39) (qD P) ∧ RT σ (b + 39) (qD P) (qS P) ∧ GR σ q (qRd P) (qU P) (qL P) ∧ σ q 3 = (qM P : Int) ∧ σ b 11 = (qV P : Int) ∧ (∀ v, v < qV P → σ (b + 38) v = qC P v) ∧ b + 53 < q
variable {σ τ : xS} {q b n : Nat}
theorem CP_same (h : CP σ q b P) (hs : ∀ k j, (k < q ∨ (q + 1 ≤ k ∧ k ≤ q + 3) ∨ (k = q ∧ j = 3)) → τ k j = σ k j) : CP τ q b P := by
  obtain ⟨h1, h2, h3, h4, h5, h6, h7⟩ := h
  refine ⟨fun a c ha hc => ?_, fun a c ha hc => ?_, fun s hs' => ?_, ?_, ?_, fun v hv => ?_, h7⟩
  · rw [hs _ _ (by omega)]; exact h1 a c ha hc
  · rw [hs _ _ (by omega)]; exact h2 a c ha hc
  · rw [hs _ _ (by omega), hs _ _ (by omega), hs _ _ (by omega)]; exact h3 s hs'
  · rw [hs _ _ (by omega)]; exact h4
  · rw [hs _ _ (by omega)]; exact h5
  · rw [hs _ _ (by omega)]; exact h6 v hv
theorem c_firstWay (hC : CP σ q b P) (hP : PPV P) (hn : 4000000 ≤ n) : OK (m_X8_firstWay n q b σ) (fun x => x.1 = (qW P : Int) ∧ AW x.2 q (qM P) (qA P 0) ∧ ∀ k j, k ≠ q + 8 → k ≠ q + 9 → x.2 k j = σ k j) := by
  obtain ⟨h1, h2, h3, h4, h5, h6, h7⟩ := hC
  have hm := PP_m hP
  have hbc := bcN_le hm
  have hV := hP.2.2.2.1
  unfold m_X8_firstWay
  rw [c_fill hn (show 3 ≤ 2000 by decide), bind_some', c_fill hn (show 7 ≤ 2000 by decide), bind_some', xck_of (by omega) (by omega), xlet_eq]
  have hfr : ∀ (w : Int) k j, k ≠ q + 8 → k ≠ q + 9 → (xput (fun a j => if a = q + 9 ∧ j < 7 then (0 : Int) else if a = q + 8 ∧ j < 3 then 0 else σ a j) (q + 8) (0 : Int).toNat w) k j = σ k j := fun w k j c1 c2 => by
    rw [xput_ne (by omega), if_neg (by omega), if_neg (by omega)]
  have e3 : (if q = q + 9 ∧ 3 < 7 then (0 : Int) else if q = q + 8 ∧ 3 < 3 then 0 else σ q 3) = (qM P : Int) := by rw [if_neg (by omega), if_neg (by omega)]; exact h4
  try dsimp only
  rw [e3]
  have hAW : AW (xput (fun a j => if a = q + 9 ∧ j < 7 then (0 : Int) else if a = q + 8 ∧ j < 3 then 0 else σ a j) (q + 8) (0 : Int).toNat (qM P : Int)) q (qM P) (qA P 0) := by
    refine ⟨fun v hv => ?_, fun s hs => ?_⟩
    · by_cases c : v = 0
      · subst c
        rw [tn_lit.1, xput_eq]
        show _ = ((sgA (qM P) (fun _ => 0) 0 : Nat) : Int)
        rw [sgA_0 hm]
      · rw [tn_lit.1, xput_ne (by omega), if_neg (by omega), if_pos (by omega)]
        show _ = ((sgA (qM P) (fun _ => 0) v : Nat) : Int)
        rw [sgA_none (fun s hs ht => by omega)]
        rfl
    · rw [xput_ne (by omega), if_pos (by omega)]
      rfl
  have hfr2 := hfr (qM P : Int)
  generalize xput (fun a j => if a = q + 9 ∧ j < 7 then (0 : Int) else if a = q + 8 ∧ j < 3 then 0 else σ a j) (q + 8) (0 : Int).toNat (qM P : Int) = s3 at hAW hfr2 ⊢
  have e33 : s3 q 3 = (qM P : Int) := by rw [hfr2 _ _ (by omega) (by omega)]; exact h4
  have e11 : s3 b 11 = (qV P : Int) := by rw [hfr2 _ _ (by omega) (by omega)]; exact h5
  have hT3 : RT s3 (b + 39) (qD P) (qS P) := fun a c ha hc => by rw [hfr2 _ _ (by omega) (by omega)]; exact h2 a c ha hc
  have hr := c_restOf (p := 7) hT3 hP.2.1 hP.2.2.1 (by omega)
  have hrb := rsF_bd7 (p := 7) hP.2.1 hP.1 hP.2.2.1 (by omega)
  rw [show ((7 : Nat) : Int) = 7 from rfl] at hr
  simp only [e33, e11]
  rw [hr, bind_some', zI_of (by omega) (by omega)]
  by_cases c : rsF (qD P) (qS P) (qM P) 7 < 1000000
  · have eW : qW P = pwA (qM P) (qV P) 7 := if_pos c
    have ht : pwA (qM P) (qV P) 7 = (qV P) ^ bcN (qM P) := pw_tab ⟨qM P, hm⟩ ⟨qV P, by omega⟩
    rw [if_pos c]
    refine OK_eq (r := ((qW P : Int), s3)) ?_ ⟨rfl, hAW, hfr2⟩
    have hbt : m_J6_bitCount_0f7a4 (qM P : Int) = some (bcN (qM P) : Int) := bc_tab ⟨qM P, hm⟩
    refine loop_eq (bcN (qM P)) (fun i => (((qV P ^ i : Nat) : Int), (i : Int))) rfl ?_ ?_ (by omega)
    · intro i hi rec
      try dsimp only
      rw [hbt, bind_some', zI_of (n := (bcN (qM P) : Int)) (by omega) (by omega), zI_of (n := (i : Int)) (by omega) (by omega), if_neg (by omega), xlet_eq, xlet_eq]
      rw [show ((qV P ^ i : Nat) : Int) * (qV P : Int) = ((qV P ^ (i + 1) : Nat) : Int) by rw [Nat.pow_succ]; exact (Int.natCast_mul _ _).symm]
      rfl
    · intro rec
      try dsimp only
      rw [hbt, bind_some', zI_of (n := (bcN (qM P) : Int)) (by omega) (by omega), if_pos (Int.le_refl _), eW, ht]
  · have eW : qW P = 0 := if_neg c
    rw [if_neg c]
    exact OK_some ⟨by rw [eW]; rfl, hAW, hfr2⟩
theorem c_canCarry (hC : CP σ q b P) (hP : PPV P) {i : Nat} (hA : AW σ q (qM P) (qA P i)) (hR : ∀ m', sbP m' (qM P) → m' < 128 → DR σ q (qD P) (qS P) (qRd P) (qU P) (qL P) m') (hn : 4000000 ≤ n) : m_X8_canCarry n q b σ = some (if qFz P i = true then 1 else 0) := by
  obtain ⟨h1, h2, h3, h4, h5, h6, h7⟩ := hC
  have hV := hP.2.2.2.1
  have hld : ∀ s, s < 7 → 0 ≤ qL P s ∧ qL P s ≤ 4800 := fun s hs => (hP.2.2.2.2.1 s hs).2.1
  suffices h : OK (m_X8_canCarry n q b σ) (fun r => r = if qFz P i = true then 1 else 0) by
    obtain ⟨r, hr, hr2⟩ := h
    rw [hr, hr2]
  unfold m_X8_canCarry
  refine loop_for (qV P) (fun k (t : Int) => t = (k : Int) ∧ ∀ v, v < k → pLo (qL P) (qG P i v) ≤ qC P v) ?_ ?_ (by omega) ⟨rfl, fun v hv => absurd hv (Nat.not_lt_zero _)⟩
  · rintro k t hk ⟨rfl, g⟩ rec hrec
    have hlb := pLo_bd (m := qG P i k) hld
    have hcb := hP.2.2.2.2.2 k hk
    have hg := qG_128 (P := P) i k
    have e8 : σ (q + 8) k = (qG P i k : Int) := hA.1 k (by omega)
    have e4 := (hR (qG P i k) (qG_sb i k) hg).1
    try dsimp only
    simp only [h5]
    rw [zI_of (n := (qV P : Int)) (by omega) (by omega), zI_of (n := (k : Int)) (by omega) (by omega), if_neg (by omega), xck_of (by omega) (by omega)]
    simp (disch := omega) only [tn_cast, e8, zI_of (n := (qG P i k : Int)), xck_of, e4, h6 k hk, zI_of (n := pLo (qL P) (qG P i k)), zI_of (n := qC P k)]
    by_cases c : pLo (qL P) (qG P i k) ≤ qC P k
    · rw [if_pos c, xlet_eq]
      refine hrec _ ⟨by omega, fun v hv => ?_⟩
      by_cases e : v = k
      · rw [e]; exact c
      · exact g v (by omega)
    · rw [if_neg c]
      refine OK_some ?_
      rw [if_neg]
      intro hf
      exact c ((fzB_iff _).mp hf k hk)
  · rintro t ⟨rfl, g⟩ rec
    try dsimp only
    simp only [h5]
    rw [if_pos (Int.le_refl _)]
    exact OK_some (if_pos ((fzB_iff _).mpr g)).symm
end PL7
