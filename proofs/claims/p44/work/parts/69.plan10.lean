/-! the class gathers from a night when the shops are ready -/
section PLA
def exB : Nat → (Nat → Bool) → Bool
  | 0, _ => false
  | k + 1, f => exB k f || f k
theorem exB_iff {f : Nat → Bool} : ∀ k, exB k f = true ↔ ∃ i, i < k ∧ f i = true
  | 0 => ⟨fun h => absurd (show false = true from h) (by decide), fun ⟨i, h, _⟩ => absurd h (Nat.not_lt_zero _)⟩
  | k + 1 => by
    rw [exB, Bool.or_eq_true, exB_iff k]
    constructor
    · rintro (⟨i, h1, h2⟩ | h)
      · exact ⟨i, by omega, h2⟩
      · exact ⟨k, by omega, h⟩
    · rintro ⟨i, h1, h2⟩
      by_cases e : i = k
      · right; rw [← e]; exact h2
      · exact Or.inl ⟨i, by omega, h2⟩
/-- an order of a shop -/
def mtB (β : Nat → Int) (s o : Nat) : Bool := decide (oF β o 4 = 0) && decide (oF β o 0 = (s : Int))
def odF (β : Nat → Int) (k : Nat) : Nat := b7 (fun s => exB k (fun o => mtB β s o))
def msF (β : Nat → Int) (N : Nat → Nat → Int) (k : Nat) : Nat := b7 (fun s => exB k (fun o => mtB β s o && decide (rdyF β N o = -1)))
def duC (z : Int) (β : Nat → Int) (k s : Nat) : Int := minTo z k (fun o => if mtB β s o = true then oF β o 3 else z)
def ldC (β : Nat → Int) (k s : Nat) : Int := sumTo k (fun o => if mtB β s o = true then oF β o 2 else 0)
def rdC (f : Int) (β : Nat → Int) (N : Nat → Nat → Int) (k s : Nat) : Int := maxTo k (fun o => if mtB β s o = true then shF f (rdyF β N o) else 0)
def srvF (β : Nat → Int) (N : Nat → Nat → Int) : Nat := odF β (β 9).toNat &&& (127 ^^^ msF β N (β 9).toNat)
variable {σ τ : xS} {q q' b n : Nat} {β : Nat → Int} {e f : Int}
theorem duC_bd (hV : V β) {z : Int} (hz : 0 ≤ z) {k : Nat} (hk : k ≤ (β 9).toNat) (s : Nat) : 0 ≤ duC z β k s ∧ duC z β k s ≤ z := by
  have vr := hV.2.2.2.2.2.2.2.2.2.2.2.2.2.2
  refine ⟨minTo_ge hz _ fun i hi => ?_, minTo_le _⟩
  have h := (vr i (by omega)).2.2.2.1
  try dsimp only
  split <;> omega
theorem ldC_bd (hV : V β) {k : Nat} (hk : k ≤ (β 9).toNat) (s : Nat) : 0 ≤ ldC β k s ∧ ldC β k s ≤ 4800 := by
  have vr := hV.2.2.2.2.2.2.2.2.2.2.2.2.2.2
  have v9 := hV.2.2.2.2.2.2.2.2.2.1
  have h := sumTo_bd (n := k) (f := fun o => if mtB β s o = true then oF β o 2 else 0) (lo := 0) (hi := 200) (fun i hi => by
    have := (vr i (by omega)).2.2.1
    split <;> omega)
  unfold ldC
  omega
theorem rdC_bd (hV : V β) (h60 : allF β ≤ 60) (hf : 0 ≤ f ∧ f ≤ 1439) {k : Nat} (hk : k ≤ (β 9).toNat) (s : Nat) : 0 ≤ rdC f β (Mf (prm β)).1 k s ∧ rdC f β (Mf (prm β)).1 k s ≤ 400000 := by
  refine ⟨maxTo_ge0 _, maxTo_le (by omega) _ fun i hi => ?_⟩
  have := rdyF_bd hV h60 (o := i) (by omega)
  try dsimp only
  unfold shF
  split
  · split <;> omega
  · omega
theorem odF_next {i : Nat} (hs0 : 0 ≤ oF β i 0 ∧ oF β i 0 < 7) : odF β (i + 1) = if oF β i 4 = 0 then odF β i ||| 1 <<< (oF β i 0).toNat else odF β i := by
  have e : ∀ s, s < 7 → mtB β s i = (decide (oF β i 4 = 0) && decide ((oF β i 0).toNat = s)) := fun s hs => by
    unfold mtB
    congr 1
    by_cases c : oF β i 0 = (s : Int)
    · rw [decide_eq_true c, decide_eq_true (by omega)]
    · rw [decide_eq_false c, decide_eq_false (by omega)]
  by_cases c : oF β i 4 = 0
  · rw [if_pos c]
    refine bits_eq (b7_lt _) (or_lt (b7_lt _) (by omega)) fun s hs => ?_
    rw [or_bit]
    unfold odF
    rw [b7_bit _ hs, b7_bit _ hs, exB, e s hs, decide_eq_true c, Bool.true_and]
  · rw [if_neg c]
    refine bits_eq (b7_lt _) (b7_lt _) fun s hs => ?_
    unfold odF
    rw [b7_bit _ hs, b7_bit _ hs, exB, e s hs, decide_eq_false c, Bool.false_and, Bool.or_false]
theorem msF_next {N : Nat → Nat → Int} {i : Nat} (hs0 : 0 ≤ oF β i 0 ∧ oF β i 0 < 7) : msF β N (i + 1) = if oF β i 4 = 0 ∧ rdyF β N i = -1 then msF β N i ||| 1 <<< (oF β i 0).toNat else msF β N i := by
  have e : ∀ s, s < 7 → (mtB β s i && decide (rdyF β N i = -1)) = (decide (oF β i 4 = 0 ∧ rdyF β N i = -1) && decide ((oF β i 0).toNat = s)) := fun s hs => by
    unfold mtB
    have h2 : decide (oF β i 0 = (s : Int)) = decide ((oF β i 0).toNat = s) := by
      by_cases c : oF β i 0 = (s : Int)
      · rw [decide_eq_true c, decide_eq_true (by omega)]
      · rw [decide_eq_false c, decide_eq_false (by omega)]
    rw [h2, Bool.decide_and]
    cases decide (oF β i 4 = 0) <;> cases decide (rdyF β N i = -1) <;> cases decide ((oF β i 0).toNat = s) <;> rfl
  by_cases c : oF β i 4 = 0 ∧ rdyF β N i = -1
  · rw [if_pos c]
    refine bits_eq (b7_lt _) (or_lt (b7_lt _) (by omega)) fun s hs => ?_
    rw [or_bit]
    unfold msF
    rw [b7_bit _ hs, b7_bit _ hs, exB, e s hs, decide_eq_true c, Bool.true_and]
  · rw [if_neg c]
    refine bits_eq (b7_lt _) (b7_lt _) fun s hs => ?_
    unfold msF
    rw [b7_bit _ hs, b7_bit _ hs, exB, e s hs, decide_eq_false c, Bool.false_and, Bool.or_false]
theorem rows_next {N : Nat → Nat → Int} {i : Nat} (hs0 : 0 ≤ oF β i 0 ∧ oF β i 0 < 7) (s : Nat) {z : Int} : duC z β (i + 1) s = (if oF β i 4 = 0 ∧ (oF β i 0).toNat = s then min (duC z β i s) (oF β i 3) else duC z β i s) ∧ ldC β (i + 1) s = (if oF β i 4 = 0 ∧ (oF β i 0).toNat = s then ldC β i s + oF β i 2 else ldC β i s) ∧ rdC f β N (i + 1) s = (if oF β i 4 = 0 ∧ (oF β i 0).toNat = s then max (rdC f β N i s) (shF f (rdyF β N i)) else rdC f β N i s) := by
  have e : mtB β s i = true ↔ oF β i 4 = 0 ∧ (oF β i 0).toNat = s := by
    unfold mtB
    rw [Bool.and_eq_true, decide_eq_true_eq, decide_eq_true_eq]
    constructor
    · intro h
      exact ⟨h.1, by omega⟩
    · intro h
      exact ⟨h.1, by omega⟩
  have h1 := minTo_le (z := z) (f := fun o => if mtB β s o = true then oF β o 3 else z) i
  have h2 := maxTo_ge0 (f := fun o => if mtB β s o = true then shF f (rdyF β N o) else 0) i
  unfold duC ldC rdC
  rw [minTo, sumTo, maxTo]
  by_cases c : oF β i 4 = 0 ∧ (oF β i 0).toNat = s
  · rw [if_pos c, if_pos c, if_pos c, if_pos (e.mpr c), if_pos (e.mpr c), if_pos (e.mpr c)]
    exact ⟨rfl, rfl, rfl⟩
  · have c' : ¬ mtB β s i = true := fun h => c (e.mp h)
    rw [if_neg c, if_neg c, if_neg c, if_neg c', if_neg c', if_neg c']
    omega
theorem c_gather (hB : Bk σ b β e) (hV : V β) (h60 : allF β ≤ 60) (hR : RF σ q' β f) (hf : 0 ≤ f ∧ f ≤ 1439) (hq : b + 54 ≤ 118 ∧ 118 ≤ q' ∧ q' + 21 ≤ q) (hn : 4000000 ≤ n) :
    OK (m_X8_gather n q b q' σ) (fun τ => GR τ q (rdC f β (Mf (prm β)).1 (β 9).toNat) (duC 1439 β (β 9).toNat) (ldC β (β 9).toNat) ∧ τ q 3 = (srvF β (Mf (prm β)).1 : Int) ∧ τ q 4 = (msF β (Mf (prm β)).1 (β 9).toNat : Int) ∧ ∀ k j, ¬ (q + 1 ≤ k ∧ k ≤ q + 3) → ¬ (k = q ∧ (j = 3 ∨ j = 4)) → τ k j = σ k j) := by
  have v6 := hV.2.2.2.2.2.2.1
  have v9 := hV.2.2.2.2.2.2.2.2.2.1
  have vr := hV.2.2.2.2.2.2.2.2.2.2.2.2.2.2
  have hRo := hR.2.2
  unfold m_X8_gather
  rw [c_fill hn (show 7 ≤ 2000 by decide), bind_some', c_fill hn (show 7 ≤ 2000 by decide), bind_some', c_fill hn (show 7 ≤ 2000 by decide), bind_some', xlet_eq]
  refine loop_for (β 9).toNat (fun i (t : Int × Int × xS) => t.1 = (odF β i : Int) ∧ t.2.1 = (i : Int) ∧ (∀ s, s < 7 → t.2.2 (q + 1) s = duC 1439 β i s ∧ t.2.2 (q + 2) s = ldC β i s ∧ t.2.2 (q + 3) s = rdC f β (Mf (prm β)).1 i s) ∧ t.2.2 q 4 = (msF β (Mf (prm β)).1 i : Int) ∧ (∀ k j, ¬ (q + 1 ≤ k ∧ k ≤ q + 3) → ¬ (k = q ∧ j = 4) → t.2.2 k j = σ k j)) ?_ ?_ (by omega) ?_
  · rintro i ⟨u, w, t⟩ hi ⟨g1, g2, g3, g4, g5⟩ rec hrec
    dsimp only at g1 g2 g3 g4 g5 hrec ⊢
    subst g1 g2
    have hi' : (i : Int) < β 9 := by omega
    have hBt : Bk t b β e := Bk_same hB hV (fun k j h1 h2 => g5 k j (by omega) (by omega))
    have hho := c_hasOrderN hBt hV hi'
    have vri := vr i hi'
    have b9 : t b 13 = β 9 := hBt.2.2.2.2.2.2.2.2.2.1
    have br := hBt.2.2.2.2.2.2.2.2.2.2.2.2.2.2 i hi'
    have hs7 : 0 ≤ oF β i 0 ∧ oF β i 0 < 7 := by omega
    have o1 := odF_next (β := β) hs7
    have o2 := msF_next (β := β) (N := (Mf (prm β)).1) hs7
    have hrw := fun s => rows_next (β := β) (f := f) (N := (Mf (prm β)).1) (z := 1439) hs7 s
    simp only [b9]
    rw [zI_of (n := β 9) (by omega) (by omega), zI_of (n := (i : Int)) (by omega) (by omega), if_neg (by omega), hho, bind_some', xj_eq]
    by_cases c : oF β i 4 = 0
    · have hrd : t (q' + 19) i = shF f (rdyF β (Mf (prm β)).1 i) := by rw [g5 _ _ (by omega) (by omega)]; exact (hRo i hi').1
      have hrb := rdyF_bd hV h60 hi'
      obtain ⟨s0, hs0⟩ : ∃ s0 : Nat, oF β i 0 = (s0 : Int) := ⟨(oF β i 0).toNat, by omega⟩
      have e0 : t (b + 14 + i) 0 = (s0 : Int) := by rw [br 0 (by omega)]; exact hs0
      have e2 : t (b + 14 + i) 2 = oF β i 2 := br 2 (by omega)
      have e3 : t (b + 14 + i) 3 = oF β i 3 := br 3 (by omega)
      have hs07 : s0 < 7 := by omega
      have e0' : (oF β i 0).toNat = s0 := by omega
      rw [if_pos c, e0'] at o1
      rw [e0'] at o2
      have hd := duC_bd hV (z := 1439) (by omega) (k := i) (by omega) s0
      have hr := rdC_bd hV h60 hf (k := i) (by omega) s0
      obtain ⟨r1, r2, r3⟩ := g3 s0 hs07
      have hsh : -1 ≤ shF f (rdyF β (Mf (prm β)).1 i) ∧ shF f (rdyF β (Mf (prm β)).1 i) ≤ 400000 ∧ (shF f (rdyF β (Mf (prm β)).1 i) = -1 ↔ rdyF β (Mf (prm β)).1 i = -1) := by
        unfold shF
        split <;> omega
      have fin : ∀ t' : xS, (∀ k j, k ≠ q → t' k j = t k j) → t' q 4 = (msF β (Mf (prm β)).1 (i + 1) : Int) → (∀ j, j ≠ 4 → t' q j = t q j) → OK (rec ((odF β i ||| 1 <<< s0 : Nat), (i : Int) + 1, xput (xput (xput t' (q + 1) s0 (min (duC 1439 β i s0) (oF β i 3))) (q + 2) s0 (ldC β i s0 + oF β i 2)) (q + 3) s0 (max (rdC f β (Mf (prm β)).1 i s0) (shF f (rdyF β (Mf (prm β)).1 i))))) (fun τ => GR τ q (rdC f β (Mf (prm β)).1 (β 9).toNat) (duC 1439 β (β 9).toNat) (ldC β (β 9).toNat) ∧ τ q 3 = (srvF β (Mf (prm β)).1 : Int) ∧ τ q 4 = (msF β (Mf (prm β)).1 (β 9).toNat : Int) ∧ ∀ k j, ¬ (q + 1 ≤ k ∧ k ≤ q + 3) → ¬ (k = q ∧ (j = 3 ∨ j = 4)) → τ k j = σ k j) := fun t' w1 w2 w3 => by
        refine hrec _ ⟨by rw [o1], by (try dsimp only); omega, fun s hs => ?_, ?_, fun k j c1 c2 => ?_⟩
        · obtain ⟨x1, x2, x3⟩ := hrw s
          obtain ⟨y1, y2, y3⟩ := g3 s hs
          rw [e0'] at x1 x2 x3
          dsimp only
          rw [x1, x2, x3]
          by_cases d : s0 = s
          · subst d
            rw [if_pos ⟨c, rfl⟩, if_pos ⟨c, rfl⟩, if_pos ⟨c, rfl⟩]
            refine ⟨?_, ?_, ?_⟩
            · rw [xput_ne (by omega), xput_ne (by omega), xput_eq]
            · rw [xput_ne (by omega), xput_eq]
            · rw [xput_eq]
          · rw [if_neg (fun z => d z.2), if_neg (fun z => d z.2), if_neg (fun z => d z.2)]
            refine ⟨?_, ?_, ?_⟩
            · rw [xput_ne (by omega), xput_ne (by omega), xput_ne (by omega), w1 _ _ (by omega)]; exact y1
            · rw [xput_ne (by omega), xput_ne (by omega), xput_ne (by omega), w1 _ _ (by omega)]; exact y2
            · rw [xput_ne (by omega), xput_ne (by omega), xput_ne (by omega), w1 _ _ (by omega)]; exact y3
        · dsimp only
          rw [xput_ne (by omega), xput_ne (by omega), xput_ne (by omega)]
          exact w2
        · dsimp only
          rw [xput_ne (by omega), xput_ne (by omega), xput_ne (by omega)]
          by_cases d : k = q
          · subst d
            rw [w3 j (by omega)]
            exact g5 k j c1 c2
          · rw [w1 k j d]
            exact g5 k j c1 c2
      have hor : ∀ m : Nat, m < 128 → zor (m : Int) (zshl 1 (s0 : Int)) = ((m ||| 1 <<< s0 : Nat) : Int) := fun m hm => or_of hm hs07
      have hodl : odF β i < 128 := b7_lt _
      have hmsl : msF β (Mf (prm β)).1 i < 128 := b7_lt _
      rw [if_pos c, zI_of (n := 1) (by omega) (by omega), if_neg (by omega), xck_of (by omega) (by omega), xlet_eq, xck_of (by omega) (by omega), xj_eq]
      simp only [tn_cast, hrd, e0]
      rw [zI_of (n := shF f (rdyF β (Mf (prm β)).1 i)) (by omega) (by omega), hor _ hodl]
      by_cases d : rdyF β (Mf (prm β)).1 i = -1
      · rw [if_pos ⟨c, d⟩] at o2
        have hm4 : ∀ w, (xput t q 4 w) (b + 14 + i) 0 = (s0 : Int) := fun w => by rw [xput_ne (by omega)]; exact e0
        rw [if_pos (hsh.2.2.mpr d)]
        simp (disch := omega) only [xlet_eq, xck_of, xput_ne, xput_eq, tn_cast, e0, e2, e3, r1, r2, r3, zI_of (n := (s0 : Int)), hrd, zmin_of, zmax_of, g4, hor]
        refine fin _ (fun k j hk => xput_ne (by omega)) ?_ (fun j hj => xput_ne (by omega))
        rw [xput_eq, o2]
      · rw [if_neg (fun z => d z.2)] at o2
        rw [if_neg (fun z => d (hsh.2.2.mp z))]
        simp (disch := omega) only [xlet_eq, xck_of, xput_ne, xput_eq, tn_cast, e0, e2, e3, r1, r2, r3, zI_of (n := (s0 : Int)), hrd, zmin_of, zmax_of]
        exact fin _ (fun _ _ _ => rfl) (by rw [o2]; exact g4) (fun _ _ => rfl)
    · rw [if_neg c, zI_of (n := 0) (by omega) (by omega), if_pos rfl]
      simp only [xlet_eq]
      refine hrec _ ⟨by rw [o1, if_neg c], by (try dsimp only); omega, fun s hs => ?_, by rw [o2, if_neg (fun z => c z.1)]; exact g4, g5⟩
      obtain ⟨x1, x2, x3⟩ := hrw s
      rw [x1, x2, x3, if_neg (fun z => c z.1), if_neg (fun z => c z.1), if_neg (fun z => c z.1)]
      exact g3 s hs
  · rintro ⟨u, w, t⟩ ⟨g1, g2, g3, g4, g5⟩ rec
    dsimp only at g1 g2 g3 g4 g5 ⊢
    subst g1 g2
    have b9 : t b 13 = β 9 := by rw [g5 _ _ (by omega) (by omega)]; exact hB.2.2.2.2.2.2.2.2.2.1
    simp only [b9, g4]
    rw [zI_of (n := β 9) (by omega) (by omega), zI_of (n := (((β 9).toNat : Nat) : Int)) (by omega) (by omega), if_pos (by omega), xlet_eq, nand_of (show odF β (β 9).toNat < 128 from b7_lt _) (show msF β (Mf (prm β)).1 (β 9).toNat < 128 from b7_lt _)]
    refine OK_some ⟨fun s hs => ?_, xput_eq, ?_, fun k j c1 c2 => ?_⟩
    · obtain ⟨x1, x2, x3⟩ := g3 s hs
      have hd := duC_bd hV (z := 1439) (by omega) (Nat.le_refl (β 9).toNat) s
      have hl := ldC_bd hV (Nat.le_refl (β 9).toNat) s
      have hr := rdC_bd hV h60 hf (Nat.le_refl (β 9).toNat) s
      rw [xput_ne (by omega), xput_ne (by omega), xput_ne (by omega)]
      exact ⟨x1, x2, x3, by omega, hl, by omega⟩
    · rw [xput_ne (by omega)]
      exact g4
    · rw [xput_ne (by omega)]
      exact g5 k j c1 (by omega)
  · refine ⟨?_, rfl, fun s hs => ⟨?_, ?_, ?_⟩, ?_, fun k j c1 c2 => ?_⟩
    · show (0 : Int) = _
      have : odF β 0 = 0 := bits_eq (b7_lt _) (by omega) fun s hs => by
        unfold odF
        rw [b7_bit _ hs, Nat.zero_testBit]
        rfl
      rw [this]
      rfl
    · dsimp only
      rw [xput_ne (by omega), if_neg (by omega), if_neg (by omega), if_pos (by omega)]
      rfl
    · dsimp only
      rw [xput_ne (by omega), if_neg (by omega), if_pos (by omega)]
      rfl
    · dsimp only
      rw [xput_ne (by omega), if_pos (by omega)]
      rfl
    · dsimp only
      rw [xput_eq]
      have : msF β (Mf (prm β)).1 0 = 0 := bits_eq (b7_lt _) (by omega) fun s hs => by
        unfold msF
        rw [b7_bit _ hs, Nat.zero_testBit]
        rfl
      rw [this]
      rfl
    · dsimp only
      rw [xput_ne (by omega), if_neg (by omega), if_neg (by omega), if_neg (by omega)]
end PLA
