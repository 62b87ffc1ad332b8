/-! questions of both: distance, routeMinutes, routeStop -/
section RO8
theorem mask_tab : ∀ S : Fin 8, BitVec.ofInt 32 (zxor (((2 ^ S.val : Nat) : Int) - 1) (-1)) = ~~~(BitVec.ofNat 32 (2 ^ S.val - 1)) ∧ zlshl 1 (S.val : Int) = ((2 ^ S.val : Nat) : Int) := by decide +kernel
theorem bc_tab : ∀ m : Fin 128, m_J6_bitCount_0f7a4 (m.val : Int) = some (bcN m.val : Int) := by decide +kernel
theorem mask_bv (a : BitVec 32) {S : Nat} (hS : S ≤ 7) : (a &&& ~~~(BitVec.ofNat 32 (2 ^ S - 1))) = 0#32 ↔ a.toNat < 2 ^ S := by
  constructor
  · intro h
    refine Nat.lt_pow_two_of_testBit _ fun i hi => ?_
    rw [BitVec.testBit_toNat]
    by_cases c : i < 32
    · have h2 : (a &&& ~~~(BitVec.ofNat 32 (2 ^ S - 1))).getLsbD i = (0#32).getLsbD i := by rw [h]
      rw [BitVec.getLsbD_and, BitVec.getLsbD_not, BitVec.getLsbD_ofNat, Nat.testBit_two_pow_sub_one] at h2
      simpa [c, show ¬ i < S by omega] using h2
    · exact BitVec.getLsbD_of_ge a i (by omega)
  · intro h
    refine BitVec.eq_of_getLsbD_eq fun i hi => ?_
    rw [BitVec.getLsbD_and, BitVec.getLsbD_not, BitVec.getLsbD_ofNat, Nat.testBit_two_pow_sub_one]
    by_cases c : i < S
    · simp [c, hi]
    · have h2 : a.getLsbD i = false := by
        rw [← BitVec.testBit_toNat]
        exact Nat.testBit_lt_two_pow (Nat.lt_of_lt_of_le h (Nat.pow_le_pow_right (by omega) (by omega)))
      simp [h2]
theorem toInt_z (a : BitVec 32) : a.toInt = 0 ↔ a = 0#32 := by
  constructor
  · intro h
    refine BitVec.toInt_inj.mp ?_
    rw [h, BitVec.toInt_zero]
  · intro h
    rw [h, BitVec.toInt_zero]
theorem mask_iff {p : Int} {S : Nat} (hS : S ≤ 7) (h1 : -2147483648 ≤ p) (h2 : p < 2147483648) : zand p (zxor (((2 ^ S : Nat) : Int) - 1) (-1)) = 0 ↔ 0 ≤ p ∧ p < ((2 ^ S : Nat) : Int) := by
  have e : zand p (zxor (((2 ^ S : Nat) : Int) - 1) (-1)) = (BitVec.ofInt 32 p &&& ~~~(BitVec.ofNat 32 (2 ^ S - 1))).toInt := by
    rw [← (mask_tab ⟨S, by omega⟩).1]
    rfl
  have hp := (pow7 hS).1
  have hn : (BitVec.ofInt 32 p).toNat = (p % 4294967296).toNat := by rw [BitVec.toNat_ofInt]; rfl
  rw [e, toInt_z, mask_bv _ hS, hn]
  omega
/-- what the reference may change in a question about roads and plans -/
def rfr8 (σ σ' : xS) : Prop := ∀ a j, (a < 184 ∨ (184 < a ∧ a < 192 ∧ a ≠ 187) ∨ 214 < a ∨ (a = 184 ∧ (j < 7 ∨ (8 ≤ j ∧ j < 19) ∨ j = 50))) → σ' a j = σ a j
theorem rfr7_8 {σ σ' : xS} (h : rfr7 σ σ') : rfr8 σ σ' := fun a j hj => h a j (by omega)
def SAME8 (σ : xS) (c : Option Int) (r : Option (Int × xS)) : Prop := ∃ v, c = some v ∧ -2147483648 ≤ v ∧ v < 2147483648 ∧ OK r (fun x => x.1 = v ∧ x.2 184 7 = 0 ∧ rfr8 σ x.2)
theorem SAME_8 {σ : xS} {c : Option Int} {r : Option (Int × xS)} (h : SAME σ c r) : SAME8 σ c r := by
  obtain ⟨v, h1, h2, h3, h4⟩ := h
  exact ⟨v, h1, h2, h3, OK_mono h4 fun x hx => ⟨hx.1, hx.2.1, rfr7_8 hx.2.2⟩⟩
variable {σ τ : xS} {k r n : Nat} {β : Nat → Int} {D : Nat → Nat → Int} {S m p s : Nat} {x e : Int}
/-- the class's place of a parameter -/
def plP (β : Nat → Int) (p : Int) : Int := if p = -1 then 7 else if 0 ≤ p ∧ p < β 6 then p else -1
theorem c_placeOf (hB : Bk σ (bkA (σ 0 3)) β e) (hV : V β) {p : Int} (h1 : -2147483648 ≤ p) (h2 : p < 2147483648) : m_X12_placeOf p σ = plP β p := by
  unfold m_X12_placeOf plP
  rw [zI_of h1 h2, c_hasShop hB hV h1 h2]
  by_cases c : p = -1
  · rw [if_pos c, if_pos c]
  · rw [if_neg c, if_neg c]
    by_cases c2 : 0 ≤ p ∧ p < β 6
    · rw [if_pos c2, if_pos c2, if_neg (by omega)]
    · rw [if_neg c2, if_neg c2, if_pos rfl]
theorem r_isShopB {s : xS} (hs : s 185 = β) (hV : V β) {p : Int} (h1 : -2147483648 ≤ p) (h2 : p < 2147483648) : m_X13_isShop p s = some (if 0 ≤ p ∧ p < β 6 then 1 else 0) := by
  have h := r_isShop (σ := s) (p := p) (by rw [hs]; exact hV) h1 h2
  rw [hs] at h
  exact h
def distF (β : Nat → Int) (p q : Int) : Int := if plP β p = -1 ∨ plP β q = -1 then -1 else if dsF β (plP β p).toNat (plP β q).toNat < 1000000 then dsF β (plP β p).toNat (plP β q).toNat else -1
theorem q_distance (hT : NT σ β e) (hR : RD σ (bkA (σ 0 3) + 39) β) (hn : 4000000 ≤ n) {p q : Int} (h1 : -2147483648 ≤ p) (h2 : p < 2147483648) (h3 : -2147483648 ≤ q) (h4 : q < 2147483648) : SAME8 σ (m_X12_distance p q σ) (m_X13_distance n p q σ) := by
  obtain ⟨hB, hβ, hV, -⟩ := hT
  have v6 := hV.2.2.2.2.2.2.1
  have hD := dsF_b hV
  have hpp : plP β p = -1 ∨ (0 ≤ plP β p ∧ plP β p < 8) := by unfold plP; split <;> (try split) <;> omega
  have hpq : plP β q = -1 ∨ (0 ≤ plP β q ∧ plP β q < 8) := by unfold plP; split <;> (try split) <;> omega
  have hdb : distF β p q = -1 ∨ (0 ≤ distF β p q ∧ distF β p q ≤ 1000000) := by
    unfold distF
    split
    · exact Or.inl rfl
    · have := (hD (plP β p).toNat (by omega)).2 (plP β q).toNat (by omega)
      split <;> omega
  refine ⟨distF β p q, ?_, by omega, by omega, ?_⟩
  · unfold m_X12_distance distF
    rw [c_placeOf hB hV h1 h2, c_placeOf hB hV h3 h4, xlet_eq, xlet_eq, xj_eq, zI_of (n := plP β p) (by omega) (by omega), zI_of (n := plP β q) (by omega) (by omega)]
    by_cases c1 : plP β p = -1
    · rw [if_pos c1, if_pos (Or.inl c1)]
    · rw [if_neg c1]
      by_cases c2 : plP β q = -1
      · rw [if_pos c2, if_pos (Or.inr c2)]
      · rw [if_neg c2, if_neg (by omega)]
        have h := c_between (p := (plP β p).toNat) (s := (plP β q).toNat) hR.1 (by omega) (by omega)
        rw [show (((plP β p).toNat : Nat) : Int) = plP β p by omega, show (((plP β q).toNat : Nat) : Int) = plP β q by omega] at h
        have hb := (hD (plP β p).toNat (by omega)).2 (plP β q).toNat (by omega)
        rw [h, bind_some', zI_of (by omega) (by omega), xlet_eq]
  · unfold m_X13_distance
    rw [xlet_eq, xj_eq, xj_eq]
    have hs : (xput σ 184 7 0) 185 = β := by rw [xput_ne1 (by omega)]; exact hβ
    have e7 : (xput σ 184 7 0) 184 7 = 0 := xput_eq
    have hfr : ∀ a j, ¬ (a = 184 ∧ j = 7) → (xput σ 184 7 0) a j = σ a j := fun a j h => xput_ne h
    generalize xput σ 184 7 0 = σ1 at hs e7 hfr ⊢
    have bad : plP β p = -1 ∨ plP β q = -1 → OK (some ((-1 : Int), σ1)) (fun x => x.1 = distF β p q ∧ x.2 184 7 = 0 ∧ rfr8 σ x.2) := fun h => OK_some ⟨by unfold distF; rw [if_pos h], e7, fun a j h => hfr a j (by omega)⟩
    have good : plP β p ≠ -1 → plP β q ≠ -1 → OK (xj (fun (q13 : Unit) => (m_X13_findsWays n 185 σ1).bind fun s14 => xck (zI (((8 * (p + 1)) + q) + 1)) 64 <| xlet (s14 205 (zI (((8 * (p + 1)) + q) + 1)).toNat) fun v15 => xlet (if (zI v15) < 1000000 then v15 else (-1)) fun v16 => some (v16, s14)) fun J11 => if (zI q) = (-1) then J11 () else (m_X13_isShop q σ1).bind fun v20 => if (zI v20) = 0 then some ((-1), σ1) else J11 ()) (fun x => x.1 = distF β p q ∧ x.2 184 7 = 0 ∧ rfr8 σ x.2) := fun c1 c2 => by
      have go : OK ((m_X13_findsWays n 185 σ1).bind fun s14 => xck (zI (((8 * (p + 1)) + q) + 1)) 64 <| xlet (s14 205 (zI (((8 * (p + 1)) + q) + 1)).toNat) fun v15 => xlet (if (zI v15) < 1000000 then v15 else (-1)) fun v16 => some (v16, s14)) (fun x => x.1 = distF β p q ∧ x.2 184 7 = 0 ∧ rfr8 σ x.2) := by
        refine OK_bind (r_findsWays (k := 185) (by omega) hs hV hn) (fun τ h => ?_)
        obtain ⟨w1, w2⟩ := h
        have hp1 : 0 ≤ p + 1 ∧ p + 1 < (((β 6).toNat + 1 : Nat) : Int) := by
          unfold plP at c1
          split at c1 <;> (try split at c1) <;> omega
        have hq1 : 0 ≤ q + 1 ∧ q + 1 < (((β 6).toNat + 1 : Nat) : Int) := by
          unfold plP at c2
          split at c2 <;> (try split at c2) <;> omega
        have ep : plN (p + 1).toNat = (plP β p).toNat := by
          unfold plN plP
          unfold plP at c1
          split at c1 <;> (try split at c1) <;> split <;> omega
        have eq' : plN (q + 1).toNat = (plP β q).toNat := by
          unfold plN plP
          unfold plP at c2
          split at c2 <;> (try split at c2) <;> split <;> omega
        have hw : τ 205 (8 * (p + 1).toNat + (q + 1).toNat) = dsF β (plN (p + 1).toNat) (plN (q + 1).toNat) := w1 (p + 1).toNat (q + 1).toNat (by omega) (by omega)
        rw [ep, eq'] at hw
        rw [show 8 * (p + 1).toNat + (q + 1).toNat = (8 * (p + 1) + q + 1).toNat by omega] at hw
        have hb := (hD (plP β p).toNat (by omega)).2 (plP β q).toNat (by omega)
        rw [zI_of (n := 8 * (p + 1) + q + 1) (by omega) (by omega), xck_of (by omega) (by omega), hw, xlet_eq, xlet_eq, zI_of (by omega) (by omega)]
        refine OK_some ⟨?_, ?_, fun a j h => ?_⟩
        · unfold distF
          rw [if_neg (show ¬ (plP β p = -1 ∨ plP β q = -1) from fun h => h.elim c1 c2)]
        · try dsimp only
          rw [w2 _ _ (by omega)]
          exact e7
        · try dsimp only
          rw [w2 _ _ (by omega)]
          exact hfr a j (by omega)
      rw [xj_eq, zI_of h3 h4]
      by_cases d : q = -1
      · rw [if_pos d]
        exact go
      · have d2 : 0 ≤ q ∧ q < β 6 := by
          unfold plP at c2
          rw [if_neg d] at c2
          split at c2
          · assumption
          · omega
        rw [if_neg d, r_isShopB hs hV h3 h4, if_pos d2, bind_some', zI_of (by omega) (by omega), if_neg (by omega)]
        exact go
    have bad2 : plP β p ≠ -1 → plP β q = -1 → OK (xj (fun (q13 : Unit) => (m_X13_findsWays n 185 σ1).bind fun s14 => xck (zI (((8 * (p + 1)) + q) + 1)) 64 <| xlet (s14 205 (zI (((8 * (p + 1)) + q) + 1)).toNat) fun v15 => xlet (if (zI v15) < 1000000 then v15 else (-1)) fun v16 => some (v16, s14)) fun J11 => if (zI q) = (-1) then J11 () else (m_X13_isShop q σ1).bind fun v20 => if (zI v20) = 0 then some ((-1), σ1) else J11 ()) (fun x => x.1 = distF β p q ∧ x.2 184 7 = 0 ∧ rfr8 σ x.2) := fun _ c2 => by
      have d : q ≠ -1 := fun h => by unfold plP at c2; rw [if_pos h] at c2; omega
      have d2 : ¬ (0 ≤ q ∧ q < β 6) := fun h => by unfold plP at c2; rw [if_neg d, if_pos h] at c2; omega
      rw [xj_eq, zI_of h3 h4, if_neg d, r_isShopB hs hV h3 h4, if_neg d2, bind_some', zI_of (by omega) (by omega), if_pos rfl]
      exact bad (Or.inr c2)
    have both : plP β p ≠ -1 → OK (xj (fun (q13 : Unit) => (m_X13_findsWays n 185 σ1).bind fun s14 => xck (zI (((8 * (p + 1)) + q) + 1)) 64 <| xlet (s14 205 (zI (((8 * (p + 1)) + q) + 1)).toNat) fun v15 => xlet (if (zI v15) < 1000000 then v15 else (-1)) fun v16 => some (v16, s14)) fun J11 => if (zI q) = (-1) then J11 () else (m_X13_isShop q σ1).bind fun v20 => if (zI v20) = 0 then some ((-1), σ1) else J11 ()) (fun x => x.1 = distF β p q ∧ x.2 184 7 = 0 ∧ rfr8 σ x.2) := fun c1 => by
      by_cases c2 : plP β q = -1
      · exact bad2 c1 c2
      · exact good c1 c2
    rw [zI_of h1 h2]
    by_cases d : p = -1
    · rw [if_pos d]
      exact both (by unfold plP; rw [if_pos d]; omega)
    · rw [if_neg d, r_isShopB hs hV h1 h2, bind_some']
      by_cases d2 : 0 ≤ p ∧ p < β 6
      · rw [if_pos d2, zI_of (by omega) (by omega), if_neg (by omega)]
        exact both (by unfold plP; rw [if_neg d, if_pos d2]; omega)
      · rw [if_neg d2, zI_of (by omega) (by omega), if_pos rfl]
        exact bad (Or.inl (by unfold plP; rw [if_neg d, if_neg d2]))
/-- the minutes of a route that was asked for -/
def rouF (β : Nat → Int) (p : Int) : Int := if 0 ≤ p ∧ p < ((2 ^ (β 6).toNat : Nat) : Int) then (if rsF (dsF β) (β 6).toNat p.toNat 7 < 1000000 then rsF (dsF β) (β 6).toNat p.toNat 7 else -1) else -1
theorem c_routeMinutes (hB : Bk σ (bkA (σ 0 3)) β e) (hV : V β) (hR : RD σ (bkA (σ 0 3) + 39) β) {p : Int} (h1 : -2147483648 ≤ p) (h2 : p < 2147483648) : m_X12_routeMinutes p σ = some (rouF β p) := by
  have v6 := hV.2.2.2.2.2.2.1
  have b6 := hB.2.2.2.2.2.2.1
  have hD := dsF_b hV
  obtain ⟨S, hS⟩ : ∃ S : Nat, β 6 = (S : Int) := ⟨(β 6).toNat, by omega⟩
  have h2S := pow7 (i := S) (by omega)
  have hRT := hR.2
  have eS : (β 6).toNat = S := by omega
  rw [eS] at hRT
  unfold m_X12_routeMinutes m_X1_allShops rouF
  rw [b6, eS, hS, shl_of (by omega)]
  by_cases c : 0 ≤ p ∧ p < ((2 ^ S : Nat) : Int)
  · obtain ⟨m, rfl⟩ : ∃ m : Nat, p = (m : Int) := ⟨p.toNat, by omega⟩
    have hm : m < 2 ^ S := by omega
    have hb := rsF_bd7 (D := dsF β) (S := S) (m := m) (p := 7) (by omega) hD hm (by omega)
    have hr := c_restOf (p := 7) hRT (by omega) hm (by omega)
    rw [if_pos c, (mask_iff (by omega) h1 h2).mpr c, zI_of (by omega) (by omega), if_pos rfl, tn_cast]
    rw [show ((7 : Nat) : Int) = 7 from rfl] at hr
    rw [hr, bind_some', zI_of (by omega) (by omega), xlet_eq]
  · rw [if_neg c, if_neg]
    intro h
    refine c ((mask_iff (by omega) h1 h2).mp ?_)
    rw [← h]
    refine (zI_of ?_ ?_).symm
    · exact Int32.le_toInt _
    · exact Int32.toInt_lt _
theorem q_routeMinutes_r (hβ : σ 185 = β) (hV : V β) (hn : 4000000 ≤ n) {p : Int} (h1 : -2147483648 ≤ p) (h2 : p < 2147483648) : OK (m_X13_routeMinutes n p σ) (fun x => x.1 = rouF β p ∧ x.2 184 7 = 0 ∧ rfr8 σ x.2 ∧ (rouF β p ≠ -1 → WD x.2 β)) := by
  have v6 := hV.2.2.2.2.2.2.1
  have hD := dsF_b hV
  obtain ⟨S, hS⟩ : ∃ S : Nat, β 6 = (S : Int) := ⟨(β 6).toNat, by omega⟩
  have h2S := pow7 (i := S) (by omega)
  have eS : (β 6).toNat = S := by omega
  unfold m_X13_routeMinutes
  rw [xlet_eq]
  have hs : (xput σ 184 7 0) 185 = β := by rw [xput_ne1 (by omega)]; exact hβ
  have e7 : (xput σ 184 7 0) 184 7 = 0 := xput_eq
  have hfr : ∀ a j, ¬ (a = 184 ∧ j = 7) → (xput σ 184 7 0) a j = σ a j := fun a j h => xput_ne h
  generalize xput σ 184 7 0 = σ1 at hs e7 hfr ⊢
  rw [xck_of (by omega) (by omega), hs, tn_lit.2.2.2.2.2.2.1, hS, zI_of h1 h2, (show zlshl 1 (S : Int) = ((2 ^ S : Nat) : Int) from (mask_tab ⟨S, by omega⟩).2), r_isIn (by omega) (by omega) (by omega) (by omega) (by omega) (by omega)]
  by_cases c : 0 ≤ p ∧ p < ((2 ^ S : Nat) : Int)
  · have ev : rouF β p = (if rsF (dsF β) S p.toNat 7 < 1000000 then rsF (dsF β) S p.toNat 7 else -1) := by unfold rouF; rw [eS, if_pos c]
    rw [if_pos (show 0 ≤ p ∧ p ≤ ((2 ^ S : Nat) : Int) - 1 by omega), if_neg (by omega)]
    obtain ⟨m, rfl⟩ : ∃ m : Nat, p = (m : Int) := ⟨p.toNat, by omega⟩
    have hm : m < 2 ^ S := by omega
    have hb := rsF_bd7 (D := dsF β) (S := S) (m := m) (p := 7) (by omega) hD hm (by omega)
    refine OK_bind (r_findsRoutes (k := 185) (by omega) hs hV hn) (fun τ h => ?_)
    obtain ⟨w1, w2⟩ := h
    have hl : τ 206 (8 * m) = min 1000000 (rsF (dsF β) S m 7) := by
      have h := w1.2 m 0 (by rw [eS]; exact hm) (by omega)
      rw [eS] at h
      exact h
    have hfin : rfr8 σ τ := fun a j h => by rw [w2 _ _ (by omega) (by omega)]; exact hfr a j (by omega)
    have h7 : τ 184 7 = 0 := by rw [w2 _ _ (by omega) (by omega)]; exact e7
    rw [tn_cast] at ev
    rw [ev, zI_of (n := 8 * (m : Int)) (by omega) (by omega), xck_of (by omega) (by omega), show (8 * (m : Int)).toNat = 8 * m by omega, hl, xj_eq, zI_of (by omega) (by omega)]
    by_cases c2 : rsF (dsF β) S m 7 < 1000000
    · rw [if_pos (by omega), xck_of (by omega) (by omega), if_pos c2]
      exact OK_some ⟨by (try dsimp only); omega, h7, hfin, fun _ => w1⟩
    · rw [if_neg (by omega), if_neg c2]
      exact OK_some ⟨rfl, h7, hfin, fun h => absurd rfl h⟩
  · rw [if_neg (show ¬ (0 ≤ p ∧ p ≤ ((2 ^ S : Nat) : Int) - 1) by omega), if_pos rfl]
    have ev : rouF β p = -1 := by unfold rouF; rw [eS, if_neg c]
    exact OK_some ⟨ev.symm, e7, fun a j h => hfr a j (by omega), fun h => absurd ev h⟩
theorem rouF_bd (hV : V β) (p : Int) : -1 ≤ rouF β p ∧ rouF β p ≤ 1000000 := by
  have v6 := hV.2.2.2.2.2.2.1
  have hD := dsF_b hV
  have h2S := pow7 (i := (β 6).toNat) (by omega)
  unfold rouF
  by_cases c : 0 ≤ p ∧ p < ((2 ^ (β 6).toNat : Nat) : Int)
  · have hb := rsF_bd7 (D := dsF β) (S := (β 6).toNat) (m := p.toNat) (p := 7) (by omega) hD (by omega) (by omega)
    rw [if_pos c]
    split <;> omega
  · rw [if_neg c]
    omega
theorem q_routeMinutes (hT : NT σ β e) (hR : RD σ (bkA (σ 0 3) + 39) β) (hn : 4000000 ≤ n) {p : Int} (h1 : -2147483648 ≤ p) (h2 : p < 2147483648) : SAME8 σ (m_X12_routeMinutes p σ) (m_X13_routeMinutes n p σ) := by
  obtain ⟨hB, hβ, hV, -⟩ := hT
  have hb := rouF_bd hV p
  exact ⟨rouF β p, c_routeMinutes hB hV hR h1 h2, by omega, by omega, OK_mono (q_routeMinutes_r hβ hV hn h1 h2) fun x h => ⟨h.1, h.2.1, h.2.2.1⟩⟩
/-- a stop of it -/
def rstF (β : Nat → Int) (p i : Int) : Int := if rouF β p = -1 then -1 else if 0 ≤ i ∧ i < (bcN p.toNat : Int) then ((rtN (dsF β) (β 6).toNat p.toNat (i.toNat + 1)).1 : Int) else -1
theorem q_routeStop (hT : NT σ β e) (hR : RD σ (bkA (σ 0 3) + 39) β) (hn : 4000000 ≤ n) {p i : Int} (h1 : -2147483648 ≤ p) (h2 : p < 2147483648) (h3 : -2147483648 ≤ i) (h4 : i < 2147483648) : SAME8 σ (m_X12_routeStop n p i σ) (m_X13_routeStop n p i σ) := by
  obtain ⟨hB, hβ, hV, -⟩ := hT
  have v6 := hV.2.2.2.2.2.2.1
  have hD := dsF_b hV
  obtain ⟨S, hS⟩ : ∃ S : Nat, β 6 = (S : Int) := ⟨(β 6).toNat, by omega⟩
  have h2S := pow7 (i := S) (by omega)
  have eS : (β 6).toNat = S := by omega
  have hRM := hR.1
  have hRT := hR.2
  rw [eS] at hRT
  have hrb := rouF_bd hV p
  by_cases c : rouF β p = -1
  · have ev : rstF β p i = -1 := by unfold rstF; rw [if_pos c]
    refine ⟨-1, ?_, by omega, by omega, ?_⟩
    · unfold m_X12_routeStop
      rw [c_routeMinutes hB hV hR h1 h2, bind_some', xj_eq, zI_of (by omega) (by omega), if_pos c]
    · unfold m_X13_routeStop
      refine OK_xbS (q_routeMinutes_r hβ hV hn h1 h2) (fun v s h => ?_)
      obtain ⟨g1, g2, g3, -⟩ := h
      try dsimp only at g1 g2 g3
      rw [xj_eq, g1, zI_of (by omega) (by omega), if_pos c]
      exact OK_some ⟨rfl, g2, g3⟩
  · have hp : 0 ≤ p ∧ p < ((2 ^ S : Nat) : Int) ∧ rsF (dsF β) S p.toNat 7 < 1000000 := by
      unfold rouF at c
      rw [eS] at c
      split at c
      · rename_i z
        split at c
        · rename_i z2
          exact ⟨z.1, z.2, z2⟩
        · exact absurd rfl c
      · exact absurd rfl c
    obtain ⟨m, rfl⟩ : ∃ m : Nat, p = (m : Int) := ⟨p.toNat, by omega⟩
    rw [tn_cast] at hp
    have hm : m < 2 ^ S := by omega
    have hbc := bcN_le (m := m) (by omega)
    have ev : rstF β m i = if 0 ≤ i ∧ i < (bcN m : Int) then ((rtN (dsF β) S m (i.toNat + 1)).1 : Int) else -1 := by unfold rstF; rw [if_neg c, eS, tn_cast]
    have hvb : rstF β m i = -1 ∨ (0 ≤ rstF β m i ∧ rstF β m i < 8) := by
      rw [ev]
      by_cases d : 0 ≤ i ∧ i < (bcN m : Int)
      · rw [if_pos d]
        have := (rtN_spec (S := S) (by omega) hD hm (i.toNat + 1) (by omega)).1
        omega
      · rw [if_neg d]
        exact Or.inl rfl
    refine ⟨rstF β m i, ?_, by omega, by omega, ?_⟩
    · unfold m_X12_routeStop
      rw [c_routeMinutes hB hV hR h1 h2, bind_some', xj_eq, zI_of (by omega) (by omega), if_neg c, zI_of h3 h4]
      by_cases d0 : i < 0
      · rw [if_pos d0, ev, if_neg (by omega)]
      · rw [if_neg d0, (show m_J6_bitCount_0f7a4 (m : Int) = some (bcN m : Int) from bc_tab ⟨m, by omega⟩), bind_some', zI_of (by omega) (by omega)]
        try dsimp only
        by_cases d1 : i < (bcN m : Int)
        · rw [if_pos d1, ev, if_pos ⟨by omega, d1⟩]
          refine loop_eq (i.toNat + 1) (fun k => (((rtN (dsF β) S m k).1 : Int), ((rtN (dsF β) S m k).2 : Int), (k : Int))) rfl ?_ ?_ (by omega)
          · intro k hk rec
            obtain ⟨g1, g2, g3, g4, g5⟩ := rtN_spec (S := S) (by omega) hD hm k (by omega)
            have hnext : rtN (dsF β) S m (k + 1) = (nxF (dsF β) S (rtN (dsF β) S m k).2 (rtN (dsF β) S m k).1, (rtN (dsF β) S m k).2 - 2 ^ nxF (dsF β) S (rtN (dsF β) S m k).2 (rtN (dsF β) S m k).1) := rfl
            have cz : (rtN (dsF β) S m k).2 ≠ 0 := fun h => by
              rw [h] at g3
              have : bcN 0 = 0 := rfl
              omega
            obtain ⟨n1, n2, n3, n4⟩ := nxF_spec (S := S) (by omega) hD (m := (rtN (dsF β) S m k).2) (by omega) g1 cz
            have hns := c_nextStop hRM hRT (by omega) hD (m := (rtN (dsF β) S m k).2) (by omega) g1 cz hn
            try dsimp only
            rw [hnext, zI_of (n := (k : Int)) (by omega) (by omega), if_neg (by omega), hns, bind_some', xlet_eq, xlet_eq, sub_zand (by omega) (by omega) n2]
            rfl
          · intro rec
            try dsimp only
            rw [zI_of (n := ((i.toNat + 1 : Nat) : Int)) (by omega) (by omega), if_pos (by omega)]
        · rw [if_neg d1, ev, if_neg (by omega)]
    · unfold m_X13_routeStop
      refine OK_xbS (q_routeMinutes_r hβ hV hn h1 h2) (fun v s h => ?_)
      obtain ⟨g1, g2, g3, g4⟩ := h
      try dsimp only at g1 g2 g3 g4
      have hWD := g4 c
      have w1 := hWD.1
      have w2 := hWD.2
      rw [eS] at w1 w2
      rw [xj_eq, g1, zI_of (by omega) (by omega), if_neg c, zI_of h3 h4]
      by_cases d0 : 0 ≤ i
      · rw [if_pos d0]
        refine OK_bind (r_routes w1 w2 (by omega) hD hm hp.2.2 hn) (fun τ h => ?_)
        obtain ⟨⟨q1, q2⟩, q3⟩ := h
        have hfin : rfr8 σ τ := fun a j h => by rw [q3 _ _ (by omega) (by omega)]; exact g3 a j h
        have h7 : τ 184 7 = 0 := by rw [q3 _ _ (by omega) (by omega)]; exact g2
        rw [xj_eq, q1, zI_of (n := (bcN m : Int)) (by omega) (by omega)]
        by_cases d1 : (bcN m : Int) ≤ i
        · rw [if_pos d1]
          exact OK_some ⟨by rw [ev, if_neg (by omega)], h7, hfin⟩
        · rw [if_neg d1, xck_of (by omega) (by omega)]
          exact OK_some ⟨by rw [ev, if_pos (by omega)]; exact q2 _ (by omega), h7, hfin⟩
      · rw [if_neg d0]
        exact OK_some ⟨by rw [ev, if_neg (by omega)], g2, g3⟩
end RO8
