/-! ROADS, mathematically: the shortest ways by Floyd, the shortest routes -/
section RO1
/-- the number of a place in the class -/
def plN (a : Nat) : Nat := if a = 0 then 7 else a - 1
theorem plC_N {p : Int} (h1 : 0 ≤ p) : plC p = (plN p.toNat : Int) := by
  unfold plC plN
  split <;> split <;> omega
def flS (D : Nat → Nat → Int) (m : Nat) : Nat → Nat → Int := fun a c => min (D a c) (D a m + D m c)
def flN (D : Nat → Nat → Int) : Nat → Nat → Nat → Int
  | 0 => D
  | k + 1 => flS (flN D k) k
/-- zero on the diagonal, between 0 and FAR -/
def Fb (N : Nat) (D : Nat → Nat → Int) : Prop := ∀ a, a < N → D a a = 0 ∧ ∀ c, c < N → 0 ≤ D a c ∧ D a c ≤ 1000000
/-- no way over a third place is shorter -/
def Ft (N : Nat) (D : Nat → Nat → Int) : Prop := ∀ a m c, a < N → m < N → c < N → D a c ≤ D a m + D m c
variable {N : Nat} {D T : Nat → Nat → Int}
theorem flS_b (h : Fb N D) {m : Nat} (hm : m < N) : Fb N (flS D m) := by
  intro a ha
  have h1 := h a ha
  have h2 := h m hm
  have h3 := h1.2 m hm
  have h4 := h2.2 a ha
  refine ⟨by unfold flS; omega, fun c hc => ?_⟩
  have h5 := h1.2 c hc
  have h6 := h2.2 c hc
  unfold flS
  omega
theorem flN_b (h : Fb N D) : ∀ k, k ≤ N → Fb N (flN D k)
  | 0, _ => h
  | k + 1, hk => flS_b (flN_b h k (by omega)) (by omega)
theorem flN_le (a c : Nat) : ∀ k, flN D k a c ≤ D a c
  | 0 => Int.le_refl _
  | k + 1 => by
    have := flN_le a c k
    show min (flN D k a c) _ ≤ _
    omega
/-- ways over the places that were taken in turn -/
theorem flN_over (h : Fb N D) : ∀ k, k ≤ N → ∀ a m c, a < N → m < k → c < N → flN D k a c ≤ flN D k a m + flN D k m c
  | 0, _, _, _, _, _, hm, _ => absurd hm (Nat.not_lt_zero _)
  | k + 1, hk, a, m, c, ha, hm, hc => by
    have hb := flN_b h k (by omega)
    have ih := flN_over h k (by omega)
    have b1 := (hb a ha).2 k (by omega)
    have b2 := (hb m (by omega)).2 k (by omega)
    have b3 := hb k (by omega)
    have b4 := b3.2 c hc
    have b5 := b3.2 m (by omega)
    show min (flN D k a c) (flN D k a k + flN D k k c) ≤ min (flN D k a m) (flN D k a k + flN D k k m) + min (flN D k m c) (flN D k m k + flN D k k c)
    by_cases e : m = k
    · subst e
      omega
    · have i1 := ih a m c ha (by omega) hc
      have i2 := ih a m k ha (by omega) (by omega)
      have i3 := ih k m c (by omega) (by omega) hc
      omega
theorem flN_t (h : Fb N D) : Ft N (flN D N) := fun a m c ha hm hc => flN_over h N (Nat.le_refl _) a m c ha hm hc
/-- it is the greatest of all that keep both -/
theorem flN_ge (hT : ∀ a c, a < N → c < N → T a c ≤ D a c) (ht : Ft N T) : ∀ k, k ≤ N → ∀ a c, a < N → c < N → T a c ≤ flN D k a c
  | 0, _, a, c, ha, hc => hT a c ha hc
  | k + 1, hk, a, c, ha, hc => by
    have ih := flN_ge hT ht k (by omega)
    have i1 := ih a c ha hc
    have i2 := ih a k ha (by omega)
    have i3 := ih k c (by omega) hc
    have i4 := ht a k c ha (by omega) hc
    show _ ≤ min (flN D k a c) (flN D k a k + flN D k k c)
    omega
/-- the streets, one after another -/
def bsF (β : Nat → Int) : Nat → Nat → Nat → Int
  | 0 => fun p q => if p = q then 0 else 1000000
  | s + 1 => if stF β s 3 = 1 then bsF β s else fun p q => if (p = plN (stF β s 0).toNat ∧ q = plN (stF β s 1).toNat) ∨ (p = plN (stF β s 1).toNat ∧ q = plN (stF β s 0).toNat) then min (bsF β s (plN (stF β s 0).toNat) (plN (stF β s 1).toNat)) (stF β s 2) else bsF β s p q
def dsF (β : Nat → Int) : Nat → Nat → Int := flN (bsF β (β 7).toNat) 8
/-- a place that there is -/
def isPlc (β : Nat → Int) (p : Nat) : Prop := p = 7 ∨ (p : Int) < β 6
theorem plN_inj {a b : Nat} (ha : a ≤ 7) (hb : b ≤ 7) (h : plN a = plN b) : a = b := by
  unfold plN at h
  split at h <;> split at h <;> omega
theorem plN_lt {a : Nat} (ha : a ≤ 7) : plN a < 8 := by
  unfold plN
  split <;> omega
theorem bsF_b {β : Nat → Int} (hV : V β) : ∀ s, s ≤ (β 7).toNat → Fb 8 (bsF β s)
  | 0, _ => fun a _ => ⟨if_pos rfl, fun c _ => by show 0 ≤ (if a = c then (0 : Int) else 1000000) ∧ (if a = c then (0 : Int) else 1000000) ≤ 1000000; split <;> omega⟩
  | s + 1, hs => by
    have ih := bsF_b hV s (by omega)
    have vs := hV.2.2.2.2.2.2.2.2.2.2.2.2.1 s (by omega)
    have v6 := hV.2.2.2.2.2.2.1
    have hne : plN (stF β s 0).toNat ≠ plN (stF β s 1).toNat := fun h => by
      have := plN_inj (by omega) (by omega) h
      omega
    have l1 := plN_lt (a := (stF β s 0).toNat) (by omega)
    have l2 := plN_lt (a := (stF β s 1).toNat) (by omega)
    intro a ha
    unfold bsF
    by_cases c3 : stF β s 3 = 1
    · rw [if_pos c3]
      exact ih a ha
    · rw [if_neg c3]
      have hb := (ih _ l1).2 _ l2
      refine ⟨?_, fun c hc => ?_⟩
      · rw [if_neg (by omega)]
        exact (ih a ha).1
      · have := (ih a ha).2 c hc
        split <;> omega
/-- no street goes to a place that there is not -/
theorem bsF_iso {β : Nat → Int} (hV : V β) : ∀ s, s ≤ (β 7).toNat → ∀ p q, p ≠ q → (¬ isPlc β p ∨ ¬ isPlc β q) → bsF β s p q = 1000000
  | 0, _, _, _, h, _ => if_neg h
  | s + 1, hs, p, q, h, hi => by
    have ih := bsF_iso hV s (by omega) p q h hi
    have vs := hV.2.2.2.2.2.2.2.2.2.2.2.2.1 s (by omega)
    have g : ∀ x : Int, 0 ≤ x ∧ x ≤ β 6 → isPlc β (plN x.toNat) := fun x hx => by
      unfold isPlc plN
      split <;> omega
    unfold bsF
    by_cases c3 : stF β s 3 = 1
    · rw [if_pos c3]
      exact ih
    · rw [if_neg c3]
      rw [if_neg]
      · exact ih
      · rintro (⟨rfl, rfl⟩ | ⟨rfl, rfl⟩)
        · rcases hi with z | z
          · exact z (g _ vs.1)
          · exact z (g _ vs.2.1)
        · rcases hi with z | z
          · exact z (g _ vs.2.1)
          · exact z (g _ vs.1)
theorem dsF_b {β : Nat → Int} (hV : V β) : Fb 8 (dsF β) := flN_b (bsF_b hV _ (Nat.le_refl _)) 8 (Nat.le_refl _)
theorem dsF_t {β : Nat → Int} (hV : V β) : Ft 8 (dsF β) := flN_t (bsF_b hV _ (Nat.le_refl _))
/-- the reference's numbers: the bakery first, only the places that there are -/
theorem ways_same {β : Nat → Int} (hV : V β) {n : Nat} (hn : (n : Int) = β 6 + 1) {a c : Nat} (ha : a < n) (hc : c < n) : flN (fun x y => bsF β (β 7).toNat (plN x) (plN y)) n a c = dsF β (plN a) (plN c) := by
  have v6 := hV.2.2.2.2.2.2.1
  have hB := bsF_b hV (β 7).toNat (Nat.le_refl _)
  have hR : Fb n (fun x y => bsF β (β 7).toNat (plN x) (plN y)) := fun x hx => ⟨(hB _ (plN_lt (by omega))).1, fun y hy => (hB _ (plN_lt (by omega))).2 _ (plN_lt (by omega))⟩
  have hRb := flN_b hR n (Nat.le_refl _)
  have hRt := flN_t hR
  refine Int.le_antisymm ?_ ?_
  · -- the reference's, made longer, keeps both for the class
    let iv : Nat → Nat := fun p => if p = 7 then 0 else p + 1
    let W := flN (fun x y => bsF β (β 7).toNat (plN x) (plN y)) n
    let T : Nat → Nat → Int := fun p q => if p < 8 ∧ q < 8 ∧ (p = 7 ∨ (p : Int) < β 6) ∧ (q = 7 ∨ (q : Int) < β 6) then W (iv p) (iv q) else if p = q then 0 else 1000000
    have ivp : ∀ p : Nat, (p = 7 ∨ (p : Int) < β 6) → iv p < n ∧ plN (iv p) = p := fun p hp => by
      refine ⟨?_, ?_⟩
      · show (if p = 7 then 0 else p + 1) < n
        split <;> omega
      · show plN (if p = 7 then 0 else p + 1) = p
        unfold plN
        split
        · rw [if_pos rfl]; omega
        · rw [if_neg (by omega)]; omega
    have pli : ∀ x : Nat, x < n → iv (plN x) = x ∧ (plN x = 7 ∨ (plN x : Int) < β 6) := fun x hx => by
      refine ⟨?_, ?_⟩
      · show (if plN x = 7 then 0 else plN x + 1) = x
        unfold plN
        by_cases z : x = 0
        · rw [if_pos z, if_pos rfl, z]
        · rw [if_neg z]
          split <;> omega
      · unfold plN
        split <;> omega
    have hT1 : ∀ p q, p < 8 → q < 8 → T p q ≤ bsF β (β 7).toNat p q := fun p q hp hq => by
      show (if p < 8 ∧ q < 8 ∧ (p = 7 ∨ (p : Int) < β 6) ∧ (q = 7 ∨ (q : Int) < β 6) then W (iv p) (iv q) else if p = q then 0 else 1000000) ≤ _
      by_cases z : p < 8 ∧ q < 8 ∧ (p = 7 ∨ (p : Int) < β 6) ∧ (q = 7 ∨ (q : Int) < β 6)
      · rw [if_pos z]
        have h := flN_le (D := fun x y => bsF β (β 7).toNat (plN x) (plN y)) (iv p) (iv q) n
        rw [(ivp p z.2.2.1).2, (ivp q z.2.2.2).2] at h
        exact h
      · rw [if_neg z]
        by_cases y : p = q
        · subst y
          rw [if_pos rfl, (hB p hp).1]
          exact Int.le_refl _
        · rw [if_neg y, bsF_iso hV _ (Nat.le_refl _) p q y (by unfold isPlc; omega)]
          exact Int.le_refl _
    have hTb : Fb 8 T := fun p hp => by
      refine ⟨?_, fun q hq => ?_⟩
      · show (if p < 8 ∧ p < 8 ∧ (p = 7 ∨ (p : Int) < β 6) ∧ (p = 7 ∨ (p : Int) < β 6) then W (iv p) (iv p) else if p = p then 0 else 1000000) = 0
        split
        · rename_i z
          exact (hRb _ (ivp p z.2.2.1).1).1
        · exact if_pos rfl
      · show 0 ≤ (if p < 8 ∧ q < 8 ∧ (p = 7 ∨ (p : Int) < β 6) ∧ (q = 7 ∨ (q : Int) < β 6) then W (iv p) (iv q) else if p = q then 0 else 1000000) ∧ (if p < 8 ∧ q < 8 ∧ (p = 7 ∨ (p : Int) < β 6) ∧ (q = 7 ∨ (q : Int) < β 6) then W (iv p) (iv q) else if p = q then 0 else 1000000) ≤ 1000000
        split
        · rename_i z
          exact (hRb _ (ivp p z.2.2.1).1).2 _ (ivp q z.2.2.2).1
        · split <;> omega
    have hTf : ∀ p q : Nat, p < 8 → q < 8 → p ≠ q → ¬ ((p = 7 ∨ (p : Int) < β 6) ∧ (q = 7 ∨ (q : Int) < β 6)) → T p q = 1000000 := fun p q hp hq h z => by
      show (if p < 8 ∧ q < 8 ∧ (p = 7 ∨ (p : Int) < β 6) ∧ (q = 7 ∨ (q : Int) < β 6) then W (iv p) (iv q) else if p = q then 0 else 1000000) = 1000000
      rw [if_neg (by omega), if_neg h]
    have hTt : Ft 8 T := fun p m q hp hm hq => by
      have b1 := (hTb p hp).2 q hq
      have b2 := (hTb p hp).2 m hm
      have b3 := (hTb m hm).2 q hq
      by_cases e1 : p = q
      · subst e1
        have := (hTb p hp).1
        omega
      · by_cases e2 : p = m
        · subst e2
          have := (hTb p hp).1
          omega
        · by_cases e3 : m = q
          · subst e3
            have := (hTb m hm).1
            omega
          · by_cases x1 : (p = 7 ∨ (p : Int) < β 6) ∧ (m = 7 ∨ (m : Int) < β 6)
            · by_cases x2 : (m = 7 ∨ (m : Int) < β 6) ∧ (q = 7 ∨ (q : Int) < β 6)
              · have t1 : T p q = W (iv p) (iv q) := if_pos ⟨hp, hq, x1.1, x2.2⟩
                have t2 : T p m = W (iv p) (iv m) := if_pos ⟨hp, hm, x1.1, x2.1⟩
                have t3 : T m q = W (iv m) (iv q) := if_pos ⟨hm, hq, x1.2, x2.2⟩
                rw [t1, t2, t3]
                exact hRt _ _ _ (ivp p x1.1).1 (ivp m x1.2).1 (ivp q x2.2).1
              · have := hTf m q hm hq e3 x2
                omega
            · have := hTf p m hp hm e2 x1
              omega
    have h := flN_ge hT1 hTt 8 (Nat.le_refl _) (plN a) (plN c) (plN_lt (by omega)) (plN_lt (by omega))
    have e : T (plN a) (plN c) = W a c := by
      show (if plN a < 8 ∧ plN c < 8 ∧ (plN a = 7 ∨ (plN a : Int) < β 6) ∧ (plN c = 7 ∨ (plN c : Int) < β 6) then W (iv (plN a)) (iv (plN c)) else if plN a = plN c then 0 else 1000000) = _
      rw [if_pos ⟨plN_lt (by omega), plN_lt (by omega), (pli a ha).2, (pli c hc).2⟩, (pli a ha).1, (pli c hc).1]
    rw [e] at h
    exact h
  · refine flN_ge (T := fun x y => dsF β (plN x) (plN y)) (fun x y hx hy => ?_) (fun x m y hx hm hy => dsF_t hV _ _ _ (plN_lt (by omega)) (plN_lt (by omega)) (plN_lt (by omega))) n (Nat.le_refl _) a c ha hc
    exact flN_le _ _ 8
end RO1
