/-! the class drives a set -/
section PL2
variable {σ τ : xS} {q r n b : Nat} {β : Nat → Int} {D : Nat → Nat → Int} {S m p s : Nat} {x e : Int} {rd du ld : Nat → Int}
theorem dpF_bd {m : Nat} (hrd : ∀ s, s < 7 → 0 ≤ rd s ∧ rd s ≤ 500000) : 0 ≤ dpF rd m ∧ dpF rd m ≤ 500000 := by
  unfold dpF
  refine ⟨maxTo_ge0 _, maxTo_le (by omega) _ (fun i hi => ?_)⟩
  have := hrd i hi
  try dsimp only
  split <;> omega
theorem c_departureFor (h3 : ∀ s, s < 7 → σ (q + 3) s = rd s) (hrd : ∀ s, s < 7 → 0 ≤ rd s ∧ rd s ≤ 500000) (hm : m < 128) (hn : 4000000 ≤ n) : m_X8_departureFor n q m σ = some (dpF rd m) := by
  unfold m_X8_departureFor
  refine loop_eq 7 (fun i => (maxTo i (fun s => if m.testBit s = true then rd s else 0), (i : Int))) rfl ?_ ?_ (by omega)
  · intro i hi rec
    have hb : 0 ≤ maxTo i (fun s => if m.testBit s = true then rd s else 0) ∧ maxTo i (fun s => if m.testBit s = true then rd s else 0) ≤ 500000 := by
      refine ⟨maxTo_ge0 _, maxTo_le (by omega) _ (fun j hj => ?_)⟩
      have := hrd j (by omega)
      try dsimp only
      split <;> omega
    have hi2 := hrd i hi
    try dsimp only
    rw [maxTo]
    generalize maxTo i (fun s => if m.testBit s = true then rd s else 0) = M at hb ⊢
    rw [zI_of (n := (i : Int)) (by omega) (by omega), if_neg (by omega), xj_eq, bit_of hm hi]
    by_cases t : m.testBit i = true
    · rw [if_pos t, if_pos t, if_neg (by omega), xck_of (by omega) (by omega), tn_cast, h3 i hi, zmax_of (by omega) (by omega) (by omega) (by omega)]
      rfl
    · rw [if_neg t, if_neg t, if_pos rfl, show max M 0 = M by omega]
      rfl
  · intro rec
    try dsimp only
    rw [zI_of (n := ((7 : Nat) : Int)) (by omega) (by omega), if_pos (by omega)]
    rfl
/-- what was passed -/
def psB (D : Nat → Nat → Int) (S m k s : Nat) : Bool := m.testBit s && !(rtN D S m k).2.testBit s
theorem psB_0 (s : Nat) : psB D S m 0 s = false := by
  show (m.testBit s && !m.testBit s) = false
  cases m.testBit s <;> rfl
theorem psB_next (hS : S ≤ 7) (hD : Fb 8 D) (hm : m < 2 ^ S) {k : Nat} (hk : k < bcN m) : (rtN D S m (k + 1)).1 = nxF D S (rtN D S m k).2 (rtN D S m k).1 ∧ (rtN D S m (k + 1)).1 < S ∧ (rtN D S m k).2 ≠ 0 ∧ (rtN D S m k).2.testBit (rtN D S m (k + 1)).1 = true ∧ m.testBit (rtN D S m (k + 1)).1 = true ∧ psB D S m k (rtN D S m (k + 1)).1 = false ∧ psB D S m (k + 1) (rtN D S m (k + 1)).1 = true ∧ (∀ s, s < 7 → s ≠ (rtN D S m (k + 1)).1 → psB D S m (k + 1) s = psB D S m k s) ∧ D (rtN D S m k).1 (rtN D S m (k + 1)).1 + rsF D S (rtN D S m (k + 1)).2 (rtN D S m (k + 1)).1 = rsF D S (rtN D S m k).2 (rtN D S m k).1 ∧ (rtN D S m (k + 1)).2 = (rtN D S m k).2 - 2 ^ (rtN D S m (k + 1)).1 ∧ arF D S m (rtN D S m (k + 1)).1 = rsF D S m 7 - rsF D S (rtN D S m (k + 1)).2 (rtN D S m (k + 1)).1 := by
  have h128 := pow_le7 hS hm
  obtain ⟨g1, g2, g3, g4, g5⟩ := rtN_spec hS hD hm k (by omega)
  have c : (rtN D S m k).2 ≠ 0 := fun h => by
    rw [h] at g3
    have : bcN 0 = 0 := rfl
    omega
  obtain ⟨n1, n2, n3, -⟩ := nxF_spec hS hD (m := (rtN D S m k).2) (by omega) g1 c
  have e1 : (rtN D S m (k + 1)).1 = nxF D S (rtN D S m k).2 (rtN D S m k).1 := rfl
  have e2 : (rtN D S m (k + 1)).2 = (rtN D S m k).2 - 2 ^ (rtN D S m (k + 1)).1 := rfl
  rw [← e1] at n1 n2 n3
  have hmb := g4 _ (by omega) n2
  have hbit : ∀ s, s < 7 → (rtN D S m (k + 1)).2.testBit s = ((rtN D S m k).2.testBit s && decide (s ≠ (rtN D S m (k + 1)).1)) := fun s hs => by
    rw [e2, sub_bit (by omega) (by omega) hs n2]
  have hbn := hbit _ (show (rtN D S m (k + 1)).1 < 7 by omega)
  refine ⟨e1, n1, c, n2, hmb, ?_, ?_, fun s hs hne => ?_, ?_, e2, ?_⟩
  · unfold psB
    rw [hmb, n2]
    rfl
  · unfold psB
    rw [hmb, hbn]
    simp
  · unfold psB
    rw [hbit s hs, decide_eq_true hne, Bool.and_true]
  · unfold byF at n3
    rw [e2]
    exact n3
  · unfold arF
    rw [arK_done hS hD hm (by omega) hmb (bcN m) (k + 1) (by omega) (Nat.le_refl _) (by rw [hbn]; simp), arK, if_pos rfl]
theorem psB_end (hS : S ≤ 7) (hD : Fb 8 D) (hm : m < 2 ^ S) (s : Nat) : psB D S m (bcN m) s = m.testBit s := by
  obtain ⟨g1, g2, g3, g4, g5⟩ := rtN_spec hS hD hm (bcN m) (Nat.le_refl _)
  have h128 := pow_le7 hS hm
  unfold psB
  rw [bcN_0 (m := (rtN D S m (bcN m)).2) (by omega) (by omega), Nat.zero_testBit]
  simp
theorem arF_bd (hS : S ≤ 7) (hD : Fb 8 D) (hm : m < 2 ^ S) (s : Nat) : 0 ≤ arF D S m s ∧ arF D S m s ≤ 7000000 := arK_bd hS hD hm s _ (Nat.le_refl _)
/-- what a drive through a set leaves -/
def DR (τ : xS) (q : Nat) (D : Nat → Nat → Int) (S : Nat) (rd du ld : Nat → Int) (m : Nat) : Prop := τ (q + 4) m = pLo ld m ∧ τ (q + 5) m = pLa D S rd du m ∧ τ (q + 6) m = rsF D S m 7 ∧ τ (q + 7) m = pSl D S rd du m
/-- what a plan has gathered -/
def GR (σ : xS) (q : Nat) (rd du ld : Nat → Int) : Prop := ∀ s, s < 7 → σ (q + 1) s = du s ∧ σ (q + 2) s = ld s ∧ σ (q + 3) s = rd s ∧ (0 ≤ du s ∧ du s ≤ 1000000) ∧ (0 ≤ ld s ∧ ld s ≤ 4800) ∧ (0 ≤ rd s ∧ rd s ≤ 500000)
theorem c_drive (hM : RM σ r D) (hT : RT σ r D S) (hS : S ≤ 7) (hD : Fb 8 D) (hm : m < 2 ^ S) (hq : r + 14 < q) (hG : GR σ q rd du ld) (hn : 4000000 ≤ n) :
    OK (m_X8_drive n q r m σ) (fun τ => DR τ q D S rd du ld m ∧ (∀ s, s < 7 → m.testBit s = true → τ (q + 11) s = dpF rd m + arF D S m s) ∧ ∀ k j, ¬ ((k = q + 4 ∨ k = q + 5 ∨ k = q + 6 ∨ k = q + 7) ∧ j = m) → ¬ (k = q + 11 ∧ j < 7 ∧ m.testBit j = true) → τ k j = σ k j) := by
  have h128 := pow_le7 hS hm
  have hbc := bcN_le h128
  have hdp := dpF_bd (m := m) (rd := rd) (fun s hs => (hG s hs).2.2.2.2.2)
  have hr7 := rsF_bd7 (p := 7) hS hD hm (by omega)
  unfold m_X8_drive
  rw [c_departureFor (rd := rd) (fun s hs => (hG s hs).2.2.1) (fun s hs => (hG s hs).2.2.2.2.2) h128 hn, bind_some', zI_of (n := (m : Int)) (by omega) (by omega), xck_of (by omega) (by omega), tn_cast, xlet_eq, xck_of (by omega) (by omega), xlet_eq, xck_of (by omega) (by omega), xlet_eq]
  refine loop_for (bcN m) (fun k (t : Int × Int × Int × Int × xS) => t.1 = dpF rd m + rsF D S m 7 - rsF D S (rtN D S m k).2 (rtN D S m k).1 ∧ t.2.1 = ((rtN D S m k).1 : Int) ∧ t.2.2.1 = ((rtN D S m k).2 : Int) ∧ t.2.2.2.1 = (k : Int) ∧
    t.2.2.2.2 (q + 4) m = sumTo 7 (fun s => if psB D S m k s = true then ld s else 0) ∧ t.2.2.2.2 (q + 5) m = sumTo 7 (fun s => if psB D S m k s = true ∧ du s < dpF rd m + arF D S m s then 1 else 0) ∧ t.2.2.2.2 (q + 7) m = minTo 1439 7 (fun s => if psB D S m k s = true then du s - (dpF rd m + arF D S m s) else 1439) ∧
    (∀ s, s < 7 → psB D S m k s = true → t.2.2.2.2 (q + 11) s = dpF rd m + arF D S m s) ∧ (∀ k j, ¬ ((k = q + 4 ∨ k = q + 5 ∨ k = q + 7) ∧ j = m) → ¬ (k = q + 11 ∧ j < 7 ∧ m.testBit j = true) → t.2.2.2.2 k j = σ k j)) ?_ ?_ (by omega) ?_
  · rintro k ⟨minute, place, left, stop, τ⟩ hk ⟨h1, h2, h3, h4, h5, h6, h7, h8, h9⟩ rec hrec
    try dsimp only at h1 h2 h3 h4 h5 h6 h7 h8 h9 hrec ⊢
    obtain ⟨g1, g2, g3, g4, g5⟩ := rtN_spec hS hD hm k (by omega)
    obtain ⟨g1', g2', -, -, -⟩ := rtN_spec hS hD hm (k + 1) (by omega)
    obtain ⟨p1, p2, p3, p4, p5, p6, p7, p8, p9, p10, p11⟩ := psB_next hS hD hm hk
    have hMt : RM τ r D := fun a c ha hc => by rw [h9 _ _ (by omega) (by omega)]; exact hM a c ha hc
    have hTt : RT τ r D S := fun a c ha hc => by rw [h9 _ _ (by omega) (by omega)]; exact hT a c ha hc
    have hGt : GR τ q rd du ld := fun s hs => by
      rw [h9 _ _ (by omega) (by omega), h9 _ _ (by omega) (by omega), h9 _ _ (by omega) (by omega)]
      exact hG s hs
    have hns := c_nextStop hMt hTt hS hD (m := (rtN D S m k).2) (by omega) g1 p3 hn
    rw [← p1] at hns
    have hbw := c_between hMt (p := (rtN D S m k).1) (s := (rtN D S m (k + 1)).1) g1 (by omega)
    have hdb := (hD _ g1).2 (rtN D S m (k + 1)).1 (by omega)
    have hrb := rsF_bd7 hS hD (m := (rtN D S m k).2) (p := (rtN D S m k).1) (by omega) g1
    have hrb' := rsF_bd7 hS hD (m := (rtN D S m (k + 1)).2) (p := (rtN D S m (k + 1)).1) (by omega) g1'
    have hz : zand ((rtN D S m k).2 : Int) (zxor (zshl 1 ((rtN D S m (k + 1)).1 : Int)) (-1)) = ((rtN D S m (k + 1)).2 : Int) := by
      rw [p10]
      exact sub_zand (by omega) (by omega) p4
    have hx : (rtN D S m (k + 1)).1 < 7 := by omega
    obtain ⟨s1, s2, s3, s4, s5, s6⟩ := hGt _ hx
    have u1 := sumTo_put (f := fun s => if psB D S m k s = true then ld s else 0) (g := fun s => if psB D S m (k + 1) s = true then ld s else 0) 7 hx (fun i hi hne => by (try dsimp only); rw [p8 i hi hne])
    have u2 := sumTo_put (f := fun s => if psB D S m k s = true ∧ du s < dpF rd m + arF D S m s then (1 : Int) else 0) (g := fun s => if psB D S m (k + 1) s = true ∧ du s < dpF rd m + arF D S m s then (1 : Int) else 0) 7 hx (fun i hi hne => by (try dsimp only); rw [p8 i hi hne])
    have u3 := minTo_put (z := 1439) (f := fun s => if psB D S m k s = true then du s - (dpF rd m + arF D S m s) else 1439) (g := fun s => if psB D S m (k + 1) s = true then du s - (dpF rd m + arF D S m s) else 1439) 7 hx (fun i hi hne => by (try dsimp only); rw [p8 i hi hne]) (by (try dsimp only); rw [p6]; exact Int.le_refl _)
    have hmin : -8000000 ≤ minTo 1439 7 (fun s => if psB D S m k s = true then du s - (dpF rd m + arF D S m s) else 1439) ∧ minTo 1439 7 (fun s => if psB D S m k s = true then du s - (dpF rd m + arF D S m s) else 1439) ≤ 1439 := by
      refine ⟨minTo_ge (by omega) _ (fun i hi => ?_), minTo_le _⟩
      have hai := arF_bd hS hD hm i
      have hgi := (hG i hi).2.2.2.1
      try dsimp only
      split <;> omega
    try dsimp only at u1 u2 u3
    rw [p6, p7, if_pos rfl, if_neg (by decide)] at u1
    rw [p6, p7] at u2
    rw [p7, if_pos rfl] at u3
    generalize sumTo 7 (fun s => if psB D S m k s = true then ld s else 0) = X1 at h5 u1
    generalize sumTo 7 (fun s => if psB D S m k s = true ∧ du s < dpF rd m + arF D S m s then (1 : Int) else 0) = X2 at h6 u2
    generalize minTo 1439 7 (fun s => if psB D S m k s = true then du s - (dpF rd m + arF D S m s) else 1439) = X3 at h7 u3 hmin
    have hv : minute + D (rtN D S m k).1 (rtN D S m (k + 1)).1 = dpF rd m + arF D S m (rtN D S m (k + 1)).1 := by omega
    have hv2 : dpF rd m + arF D S m (rtN D S m (k + 1)).1 = dpF rd m + rsF D S m 7 - rsF D S (rtN D S m (k + 1)).2 (rtN D S m (k + 1)).1 := by omega
    have hab := arF_bd hS hD hm (rtN D S m (k + 1)).1
    have hAb : 0 ≤ dpF rd m + arF D S m (rtN D S m (k + 1)).1 ∧ dpF rd m + arF D S m (rtN D S m (k + 1)).1 ≤ 8000000 := by omega
    subst h2 h3 h4
    rw [xj_eq, zI_of (n := (k : Int)) (by omega) (by omega), if_neg (by omega), zI_of (n := (((rtN D S m k).2 : Nat) : Int)) (by omega) (by omega), if_neg (by omega), hns, bind_some', zI_of (n := (((rtN D S m (k + 1)).1 : Nat) : Int)) (by omega) (by omega), if_pos (by omega), hbw, bind_some', hv]
    generalize hX : (rtN D S m (k + 1)).1 = X at hx s1 s2 s3 s4 s5 s6 u1 u2 u3 hv hv2 hab hAb p5 p6 p7 p8 hz hrec ⊢
    generalize hA : dpF rd m + arF D S m X = A at u2 u3 hv hv2 hAb ⊢
    simp (disch := omega) only [zI_of (n := (X : Int)), zI_of (n := (m : Int)), zI_of (n := A), zI_of (n := du X), xck_of, tn_cast, xlet_eq, xput_ne, xput_eq, h5, h6, h7, s1, s2, zmin_of, hz]
    refine hrec _ ⟨by (try dsimp only); omega, rfl, rfl, by (try dsimp only); omega, ?_, ?_, ?_, fun s hs hps => ?_, fun k' j' c1 c2 => ?_⟩
    · try dsimp only
      rw [xput_ne (by omega), xput_ne (by omega), xput_eq, u1]
      omega
    · try dsimp only
      rw [xput_ne (by omega), xput_eq, u2]
      by_cases c : du X < A
      · simp [c, show ¬ A ≤ du X by omega]
      · simp [c, show A ≤ du X by omega]
    · try dsimp only
      rw [xput_eq, u3]
    · try dsimp only
      rw [xput_ne (by omega), xput_ne (by omega), xput_ne (by omega)]
      by_cases c : s = X
      · rw [c, xput_eq]
        exact hA.symm
      · rw [xput_ne (by omega)]
        exact h8 s hs (by rw [← p8 s hs c]; exact hps)
    · try dsimp only
      have hne : ¬ (k' = q + 11 ∧ j' = X) := fun z => c2 ⟨z.1, by omega, by rw [z.2]; exact p5⟩
      rw [xput_ne (by omega), xput_ne (by omega), xput_ne (by omega), xput_ne hne]
      exact h9 k' j' c1 c2
  · rintro ⟨minute, place, left, stop, τ⟩ ⟨h1, h2, h3, h4, h5, h6, h7, h8, h9⟩ rec
    try dsimp only at h1 h2 h3 h4 h5 h6 h7 h8 h9 ⊢
    have hz : (rtN D S m (bcN m)).2 = 0 := by
      obtain ⟨g1, g2, g3, g4, g5⟩ := rtN_spec hS hD hm (bcN m) (Nat.le_refl _)
      exact bcN_0 (by omega) (by omega)
    have hfin : OK (xj (fun (q11 : Unit) => xck (m : Int) 128 <| xlet (xput τ (q + 6) (m : Int).toNat (minute - dpF rd m)) fun s12 => some s12) fun J9 => J9 ()) (fun τ => DR τ q D S rd du ld m ∧ (∀ s, s < 7 → m.testBit s = true → τ (q + 11) s = dpF rd m + arF D S m s) ∧ ∀ k j, ¬ ((k = q + 4 ∨ k = q + 5 ∨ k = q + 6 ∨ k = q + 7) ∧ j = m) → ¬ (k = q + 11 ∧ j < 7 ∧ m.testBit j = true) → τ k j = σ k j) := by
      rw [xj_eq, xck_of (by omega) (by omega), xlet_eq, tn_cast]
      refine OK_some ⟨⟨?_, ?_, ?_, ?_⟩, fun s hs hms => ?_, fun k j c1 c2 => ?_⟩
      · rw [xput_ne (by omega), h5]
        unfold pLo
        exact sumTo_congr fun i _ => by rw [psB_end hS hD hm]
      · rw [xput_ne (by omega), h6]
        unfold pLa
        exact sumTo_congr fun i _ => by rw [psB_end hS hD hm]
      · rw [xput_eq, h1, hz, rsF_0]
        omega
      · rw [xput_ne (by omega), h7]
        unfold pSl
        exact minTo_congr fun i _ => by rw [psB_end hS hD hm]
      · rw [xput_ne (by omega)]
        exact h8 s hs (by rw [psB_end hS hD hm]; exact hms)
      · rw [xput_ne (by omega)]
        exact h9 k j (by omega) c2
    rw [xj_eq] at hfin ⊢
    rw [h4, zI_of (n := ((bcN m : Nat) : Int)) (by omega) (by omega), h3, hz, zI_of (n := ((0 : Nat) : Int)) (by omega) (by omega), if_pos (show ((0 : Nat) : Int) = 0 from rfl)]
    split
    · exact hfin
    · exact hfin
  · refine ⟨?_, rfl, rfl, rfl, ?_, ?_, ?_, fun s hs h => ?_, fun k j c1 c2 => ?_⟩
    · show dpF rd m = dpF rd m + rsF D S m 7 - rsF D S m 7
      omega
    · try dsimp only
      rw [xput_ne (by omega), xput_ne (by omega), xput_eq]
      exact (sumTo_zero fun i _ => by (try dsimp only); rw [psB_0]; rfl).symm
    · try dsimp only
      rw [xput_ne (by omega), xput_eq]
      exact (sumTo_zero fun i _ => by (try dsimp only); rw [psB_0]; exact if_neg (fun z => absurd z.1 (by decide))).symm
    · try dsimp only
      rw [xput_eq]
      refine (Int.le_antisymm (minTo_le _) (minTo_ge (Int.le_refl _) _ fun i _ => ?_)).symm
      try dsimp only
      rw [psB_0]
      exact Int.le_refl _
    · rw [psB_0] at h
      exact absurd h (by decide)
    · try dsimp only
      rw [xput_ne (by omega), xput_ne (by omega), xput_ne (by omega)]
end PL2
