/-! the reference finds its shops -/
section PLB
variable {σ τ : xS} {k n : Nat} {β γ : Nat → Int} {e f : Int} {m S : Nat}
/-- the reference's rows of a shop -/
def GS (σ : xS) (S : Nat) (rd du ld : Nat → Int) : Prop := ∀ s, s < S → σ 208 s = rd s ∧ σ 209 s = du s ∧ σ 210 s = ld s
def odP (β : Nat → Int) (i k : Nat) : Nat := b7 (fun s => (decide (s < i) && exB (β 9).toNat (fun o => mtB β s o)) || (decide (s = i) && exB k (fun o => mtB β s o)))
def msP (β : Nat → Int) (N : Nat → Nat → Int) (i k : Nat) : Nat := b7 (fun s => (decide (s < i) && exB (β 9).toNat (fun o => mtB β s o && decide (rdyF β N o = -1))) || (decide (s = i) && exB k (fun o => mtB β s o && decide (rdyF β N o = -1))))
theorem mt_lt (hV : V β) {s o : Nat} (ho : (o : Int) < β 9) (h : mtB β s o = true) : (s : Int) < β 6 := by
  have vr := hV.2.2.2.2.2.2.2.2.2.2.2.2.2.2 o ho
  unfold mtB at h
  rw [Bool.and_eq_true, decide_eq_true_eq, decide_eq_true_eq] at h
  omega
theorem exB_none {k : Nat} {f : Nat → Bool} (h : ∀ i, i < k → f i = false) : exB k f = false := by
  cases c : exB k f
  · rfl
  · obtain ⟨i, h1, h2⟩ := (exB_iff k).mp c
    rw [h i h1] at h2
    exact absurd h2 (by decide)
theorem odP_0 : odP β 0 0 = 0 := bits_eq (b7_lt _) (by omega) fun s hs => by
  unfold odP
  rw [b7_bit _ hs, Nat.zero_testBit, decide_eq_false (Nat.not_lt_zero s)]
  show (false && _ || (_ && false)) = false
  rw [Bool.false_and, Bool.and_false]
  rfl
theorem msP_0 {N : Nat → Nat → Int} : msP β N 0 0 = 0 := bits_eq (b7_lt _) (by omega) fun s hs => by
  unfold msP
  rw [b7_bit _ hs, Nat.zero_testBit, decide_eq_false (Nat.not_lt_zero s)]
  show (false && _ || (_ && false)) = false
  rw [Bool.false_and, Bool.and_false]
  rfl
theorem odP_row {i : Nat} : odP β i (β 9).toNat = odP β (i + 1) 0 := by
  unfold odP
  refine b7_congr fun s _ => ?_
  show _ = (_ || (_ && false))
  rw [Bool.and_false, Bool.or_false]
  by_cases c : s < i
  · rw [decide_eq_true c, decide_eq_false (by omega), decide_eq_true (show s < i + 1 by omega), Bool.true_and, Bool.false_and, Bool.or_false]
  · by_cases d : s = i
    · rw [decide_eq_false c, decide_eq_true d, decide_eq_true (show s < i + 1 by omega), Bool.true_and, Bool.false_and, Bool.false_or]
    · rw [decide_eq_false c, decide_eq_false d, decide_eq_false (show ¬ s < i + 1 by omega), Bool.false_and, Bool.false_or]
theorem msP_row {N : Nat → Nat → Int} {i : Nat} : msP β N i (β 9).toNat = msP β N (i + 1) 0 := by
  unfold msP
  refine b7_congr fun s _ => ?_
  show _ = (_ || (_ && false))
  rw [Bool.and_false, Bool.or_false]
  by_cases c : s < i
  · rw [decide_eq_true c, decide_eq_false (by omega), decide_eq_true (show s < i + 1 by omega), Bool.true_and, Bool.false_and, Bool.or_false]
  · by_cases d : s = i
    · rw [decide_eq_false c, decide_eq_true d, decide_eq_true (show s < i + 1 by omega), Bool.true_and, Bool.false_and, Bool.false_or]
    · rw [decide_eq_false c, decide_eq_false d, decide_eq_false (show ¬ s < i + 1 by omega), Bool.false_and, Bool.false_or]
theorem odP_end (hV : V β) {S : Nat} (hS : (S : Int) = β 6) : odP β S 0 = odF β (β 9).toNat := by
  unfold odP odF
  refine b7_congr fun s _ => ?_
  show (_ || (_ && false)) = _
  rw [Bool.and_false, Bool.or_false]
  by_cases c : s < S
  · rw [decide_eq_true c, Bool.true_and]
  · rw [decide_eq_false c, Bool.false_and]
    refine (exB_none fun o ho => ?_).symm
    cases h : mtB β s o
    · rfl
    · have := mt_lt hV (o := o) (by omega) h
      omega
theorem msP_end (hV : V β) {N : Nat → Nat → Int} {S : Nat} (hS : (S : Int) = β 6) : msP β N S 0 = msF β N (β 9).toNat := by
  unfold msP msF
  refine b7_congr fun s _ => ?_
  show (_ || (_ && false)) = _
  rw [Bool.and_false, Bool.or_false]
  by_cases c : s < S
  · rw [decide_eq_true c, Bool.true_and]
  · rw [decide_eq_false c, Bool.false_and]
    refine (exB_none fun o ho => ?_).symm
    cases h : mtB β s o
    · rw [Bool.false_and]
    · have := mt_lt hV (o := o) (by omega) h
      omega
theorem odP_next {i k : Nat} (hi : i < 7) : odP β i (k + 1) = if mtB β i k = true then odP β i k ||| 1 <<< i else odP β i k := by
  by_cases c : mtB β i k = true
  · rw [if_pos c]
    refine bits_eq (b7_lt _) (or_lt (b7_lt _) hi) fun s hs => ?_
    rw [or_bit]
    unfold odP
    rw [b7_bit _ hs, b7_bit _ hs, exB]
    by_cases d : s = i
    · subst d
      rw [c]
      simp
    · rw [decide_eq_false d, decide_eq_false (show ¬ i = s from fun z => d z.symm)]
      simp
  · rw [if_neg c]
    refine bits_eq (b7_lt _) (b7_lt _) fun s hs => ?_
    unfold odP
    rw [b7_bit _ hs, b7_bit _ hs, exB]
    by_cases d : s = i
    · subst d
      rw [Bool.eq_false_iff.mpr c]
      simp
    · rw [decide_eq_false d]
      simp
theorem msP_next {N : Nat → Nat → Int} {i k : Nat} (hi : i < 7) : msP β N i (k + 1) = if mtB β i k = true ∧ rdyF β N k = -1 then msP β N i k ||| 1 <<< i else msP β N i k := by
  by_cases c : mtB β i k = true ∧ rdyF β N k = -1
  · rw [if_pos c]
    refine bits_eq (b7_lt _) (or_lt (b7_lt _) hi) fun s hs => ?_
    rw [or_bit]
    unfold msP
    rw [b7_bit _ hs, b7_bit _ hs, exB]
    by_cases d : s = i
    · subst d
      rw [c.1, decide_eq_true c.2]
      simp
    · rw [decide_eq_false d, decide_eq_false (show ¬ i = s from fun z => d z.symm)]
      simp
  · rw [if_neg c]
    have c' : (mtB β i k && decide (rdyF β N k = -1)) = false := by
      rw [Bool.eq_false_iff]
      intro h
      rw [Bool.and_eq_true, decide_eq_true_eq] at h
      exact c h
    refine bits_eq (b7_lt _) (b7_lt _) fun s hs => ?_
    unfold msP
    rw [b7_bit _ hs, b7_bit _ hs, exB]
    by_cases d : s = i
    · subst d
      rw [c']
      simp
    · rw [decide_eq_false d]
      simp
theorem r_findsShops (hk : 185 ≤ k ∧ k ≤ 187) (hs : σ k = γ) (hA : Ag β γ) (hVg : V γ) (hV : V β) (h60 : allF β ≤ 60) (hG : RG σ β) (hn : 4000000 ≤ n) :
    OK (m_X13_findsShops n k σ) (fun τ => GS τ (β 6).toNat (rdC 0 β (Mf (prm β)).1 (β 9).toNat) (duC 1000000 β (β 9).toNat) (ldC β (β 9).toNat) ∧ τ 184 46 = (srvF β (Mf (prm β)).1 : Int) ∧ τ 184 47 = (msF β (Mf (prm β)).1 (β 9).toNat : Int) ∧ ∀ k j, ¬ (208 ≤ k ∧ k ≤ 210) → ¬ (k = 184 ∧ (j = 46 ∨ j = 47)) → τ k j = σ k j) := by
  have v6 := hV.2.2.2.2.2.2.1
  have v9 := hV.2.2.2.2.2.2.2.2.2.1
  have vr := hV.2.2.2.2.2.2.2.2.2.2.2.2.2.2
  have g6 : γ 6 = β 6 := hA 6 (by omega) (by omega)
  have g9 : γ 9 = β 9 := hA 9 (by omega) (by omega)
  obtain ⟨S, hS⟩ : ∃ S : Nat, (S : Int) = β 6 := ⟨(β 6).toNat, by omega⟩
  have eS : (β 6).toNat = S := by omega
  rw [eS]
  have h0f : (0 : Int) ≤ 0 ∧ (0 : Int) ≤ 1439 := by omega
  have hsh : ∀ x : Int, shF 0 x = x := fun x => by
    unfold shF
    split <;> omega
  have hnG : ∀ t : xS, (∀ a j, ¬ (208 ≤ a ∧ a ≤ 210) → ¬ (a = 184 ∧ (j = 46 ∨ j = 47)) → t a j = σ a j) → t k = γ ∧ RG t β := fun t ht => by
    refine ⟨by rw [← hs]; funext j; exact ht k j (by omega) (by omega), ?_⟩
    obtain ⟨q1, q2, q3, q4, q5, q6, q7⟩ := hG
    refine ⟨by rw [ht _ _ (by omega) (by omega)]; exact q1, fun b hb => ?_, fun o ho => by rw [ht _ _ (by omega) (by omega)]; exact q3 o ho, by rw [ht _ _ (by omega) (by omega)]; exact q4, by rw [ht _ _ (by omega) (by omega)]; exact q5, by rw [ht _ _ (by omega) (by omega)]; exact q6, by rw [ht _ _ (by omega) (by omega)]; exact q7⟩
    obtain ⟨p1, p2, p3, p4⟩ := q2 b hb
    exact ⟨by rw [ht _ _ (by omega) (by omega)]; exact p1, by rw [ht _ _ (by omega) (by omega)]; exact p2, fun r hr => by rw [ht _ _ (by omega) (by omega)]; exact p3 r hr, by rw [ht _ _ (by omega) (by omega)]; exact p4⟩
  unfold m_X13_findsShops
  rw [xlet_eq, xlet_eq]
  refine loop_for S (fun i (t : Int × xS) => t.1 = (i : Int) ∧ GS t.2 i (rdC 0 β (Mf (prm β)).1 (β 9).toNat) (duC 1000000 β (β 9).toNat) (ldC β (β 9).toNat) ∧ t.2 184 46 = (odP β i 0 : Int) ∧ t.2 184 47 = (msP β (Mf (prm β)).1 i 0 : Int) ∧ ∀ k j, ¬ (208 ≤ k ∧ k ≤ 210) → ¬ (k = 184 ∧ (j = 46 ∨ j = 47)) → t.2 k j = σ k j) ?_ ?_ (by omega) ⟨rfl, fun s hs => absurd hs (Nat.not_lt_zero _), ?_, ?_, fun k j c1 c2 => ?_⟩
  · rintro i ⟨u, t⟩ hi ⟨h1, h2, h3, h4, h5⟩ rec hrec
    dsimp only at h1 h2 h3 h4 h5 hrec ⊢
    subst h1
    have hi7 : i < 7 := by omega
    have e6 : t k (6 : Int).toNat = (S : Int) := by rw [(hnG t h5).1, tn_lit.2.2.2.2.2.2.1, g6, hS]
    rw [xck_of (by omega) (by omega)]
    simp only [e6]
    rw [zI_of (n := (S : Int)) (by omega) (by omega), zI_of (n := (i : Int)) (by omega) (by omega), if_neg (by omega), xck_of (by omega) (by omega), xlet_eq, xck_of (by omega) (by omega), xlet_eq, xck_of (by omega) (by omega), xlet_eq, tn_cast]
    refine loop_for (β 9).toNat (fun o (t' : Int × xS) => t'.1 = (o : Int) ∧ GS t'.2 i (rdC 0 β (Mf (prm β)).1 (β 9).toNat) (duC 1000000 β (β 9).toNat) (ldC β (β 9).toNat) ∧ t'.2 208 i = rdC 0 β (Mf (prm β)).1 o i ∧ t'.2 209 i = duC 1000000 β o i ∧ t'.2 210 i = ldC β o i ∧ t'.2 184 46 = (odP β i o : Int) ∧ t'.2 184 47 = (msP β (Mf (prm β)).1 i o : Int) ∧ ∀ k j, ¬ (208 ≤ k ∧ k ≤ 210) → ¬ (k = 184 ∧ (j = 46 ∨ j = 47)) → t'.2 k j = σ k j) ?_ ?_ (by omega) ⟨rfl, fun s hs => ?_, ?_, ?_, ?_, ?_, ?_, fun k j c1 c2 => ?_⟩
    · rintro o ⟨u, t1⟩ ho ⟨q1, q2, q3, q4, q5, q6, q7, q8⟩ rec1 hrec1
      dsimp only at q1 q2 q3 q4 q5 q6 q7 q8 hrec1 ⊢
      subst q1
      have ho' : (o : Int) < β 9 := by omega
      obtain ⟨hs1, hG1⟩ := hnG t1 q8
      have vro := vr o ho'
      have e9 : t1 k (9 : Int).toNat = β 9 := by rw [hs1, tn_lit.2.2.2.2.2.2.2.2.2.1, g9]
      have hme := r_isMeant (σ := t1) (k := k) (i := o) (by rw [hs1]; exact hVg) (by rw [hs1, g9]; exact ho')
      have ho0 := r_order0 (σ := t1) (k := k) (i := o) (by omega)
      rw [hs1, Ag_oF hA (by omega) (by omega)] at hme ho0
      have hs7 : 0 ≤ oF β o 0 ∧ oF β o 0 < 7 := by omega
      obtain ⟨x1, x2, x3⟩ := rows_next (β := β) (f := 0) (N := (Mf (prm β)).1) (z := 1000000) hs7 i
      have on := odP_next (β := β) (k := o) hi7
      have mn := msP_next (β := β) (N := (Mf (prm β)).1) (k := o) hi7
      have hmt : mtB β i o = true ↔ oF β o 4 = 0 ∧ (oF β o 0).toNat = i := by
        unfold mtB
        rw [Bool.and_eq_true, decide_eq_true_eq, decide_eq_true_eq]
        omega
      have stay : ¬ (oF β o 4 = 0 ∧ (oF β o 0).toNat = i) → OK (rec1 ((o : Int) + 1, t1)) (fun τ => GS τ S (rdC 0 β (Mf (prm β)).1 (β 9).toNat) (duC 1000000 β (β 9).toNat) (ldC β (β 9).toNat) ∧ τ 184 46 = (srvF β (Mf (prm β)).1 : Int) ∧ τ 184 47 = (msF β (Mf (prm β)).1 (β 9).toNat : Int) ∧ ∀ k j, ¬ (208 ≤ k ∧ k ≤ 210) → ¬ (k = 184 ∧ (j = 46 ∨ j = 47)) → τ k j = σ k j) := fun c => by
        rw [if_neg c] at x1 x2 x3
        have c' : ¬ mtB β i o = true := fun h => c (hmt.mp h)
        rw [if_neg c'] at on
        rw [if_neg (fun h => c' h.1)] at mn
        exact hrec1 _ ⟨by (try dsimp only); omega, q2, by rw [x3]; exact q3, by rw [x1]; exact q4, by rw [x2]; exact q5, by rw [on]; exact q6, by rw [mn]; exact q7, q8⟩
      rw [xck_of (by omega) (by omega)]
      simp only [e9]
      rw [zI_of (n := β 9) (by omega) (by omega), zI_of (n := (o : Int)) (by omega) (by omega), if_neg (by omega), hme, bind_some', xj_eq]
      by_cases c4 : oF β o 4 = 0
      · rw [if_pos c4, zI_of (n := 1) (by omega) (by omega), if_neg (by omega), ho0, bind_some', zI_of (n := oF β o 0) (by omega) (by omega)]
        by_cases c0 : oF β o 0 = (i : Int)
        · have c : oF β o 4 = 0 ∧ (oF β o 0).toNat = i := ⟨c4, by omega⟩
          rw [if_pos c] at x1 x2 x3
          have c' : mtB β i o = true := hmt.mpr c
          rw [if_pos c'] at on
          have hor : ∀ m : Nat, m < 128 → zor (m : Int) (zshl 1 (i : Int)) = ((m ||| 1 <<< i : Nat) : Int) := fun m hm => or_of hm hi7
          have hodl : odP β i o < 128 := b7_lt _
          have hmsl : msP β (Mf (prm β)).1 i o < 128 := b7_lt _
          have hd := duC_bd hV (z := 1000000) (by omega) (k := o) (by omega) i
          have hrb := rdC_bd hV h60 h0f (k := o) (by omega) i
          have hro := rdyF_bd hV h60 ho'
          rw [hsh] at x3
          -- the state with the shop noted
          have f46 : ∀ a j, ¬ (208 ≤ a ∧ a ≤ 210) → ¬ (a = 184 ∧ (j = 46 ∨ j = 47)) → (xput t1 184 46 (odP β i (o + 1) : Int)) a j = σ a j := fun a j c1 c2 => by rw [xput_ne (by omega)]; exact q8 a j c1 c2
          have w46 : (xput t1 184 46 (odP β i (o + 1) : Int)) 184 46 = (odP β i (o + 1) : Int) := xput_eq
          have w47 : (xput t1 184 46 (odP β i (o + 1) : Int)) 184 47 = (msP β (Mf (prm β)).1 i o : Int) := by rw [xput_ne (by omega)]; exact q7
          have wr : ∀ a j, 208 ≤ a → a ≤ 210 → (xput t1 184 46 (odP β i (o + 1) : Int)) a j = t1 a j := fun a j c1 c2 => xput_ne (by omega)
          rw [if_pos c0, xlet_eq, q6, hor _ hodl, ← on]
          generalize xput t1 184 46 (odP β i (o + 1) : Int) = t2 at f46 w46 w47 wr ⊢
          obtain ⟨hs2, hG2⟩ := hnG t2 f46
          have hir := r_isReady2 hk hs2 hA hVg hV h60 hG2 hn ho'
          have hra := r_readyAt2 hk hs2 hA hVg hV h60 hG2 hn ho'
          have fin : ∀ t3 : xS, (∀ a j, ¬ (a = 208 ∧ j = i) → ¬ (a = 184 ∧ j = 47) → t3 a j = t2 a j) → t3 208 i = rdC 0 β (Mf (prm β)).1 (o + 1) i → t3 184 47 = (msP β (Mf (prm β)).1 i (o + 1) : Int) → OK (xck (i : Int) 7 <| (m_X13_order k (o : Int) 3 t3).bind fun v30 => xck (i : Int) 7 <| xlet (xput t3 209 i (m_X13_lesser (t3 209 i) v30)) fun s31 => xck (i : Int) 7 <| (m_X13_order k (o : Int) 2 s31).bind fun v32 => xck (i : Int) 7 <| xlet (xput s31 210 i ((s31 210 i) + v32)) fun s33 => xlet ((o : Int) + 1) fun v21 => rec1 (v21, s33)) (fun τ => GS τ S (rdC 0 β (Mf (prm β)).1 (β 9).toNat) (duC 1000000 β (β 9).toNat) (ldC β (β 9).toNat) ∧ τ 184 46 = (srvF β (Mf (prm β)).1 : Int) ∧ τ 184 47 = (msF β (Mf (prm β)).1 (β 9).toNat : Int) ∧ ∀ k j, ¬ (208 ≤ k ∧ k ≤ 210) → ¬ (k = 184 ∧ (j = 46 ∨ j = 47)) → τ k j = σ k j) := fun t3 z1 z2 z3 => by
            have hs3 : t3 k = γ := by rw [← hs2]; funext j; exact z1 k j (by omega) (by omega)
            have ho3 := r_order3 (σ := t3) (k := k) (i := o) (by omega)
            rw [hs3, Ag_oF hA (by omega) (by omega)] at ho3
            have e209 : t3 209 i = duC 1000000 β o i := by rw [z1 _ _ (by omega) (by omega), wr _ _ (by omega) (by omega)]; exact q4
            have e210 : ∀ w, (xput t3 209 i w) 210 i = ldC β o i := fun w => by rw [xput_ne (by omega), z1 _ _ (by omega) (by omega), wr _ _ (by omega) (by omega)]; exact q5
            have ho2 : ∀ w, m_X13_order k (o : Int) 2 (xput t3 209 i w) = some (oF β o 2) := fun w => by
              have h := r_order2 (σ := xput t3 209 i w) (k := k) (i := o) (by omega)
              rw [xput_ne1 (by omega), hs3, Ag_oF hA (by omega) (by omega)] at h
              exact h
            rw [xck_of (by omega) (by omega), ho3, bind_some', xck_of (by omega) (by omega), e209, r_lesser (by omega) (by omega) (by omega) (by omega), xlet_eq, xck_of (by omega) (by omega), ho2, bind_some', xck_of (by omega) (by omega), xlet_eq, xlet_eq, e210]
            refine hrec1 _ ⟨by (try dsimp only); omega, fun s hs' => ?_, ?_, ?_, ?_, ?_, ?_, fun a j c1 c2 => ?_⟩
            · dsimp only
              rw [xput_ne (by omega), xput_ne (by omega), xput_ne (by omega), xput_ne (by omega), xput_ne (by omega), xput_ne (by omega), z1 _ _ (by omega) (by omega), z1 _ _ (by omega) (by omega), z1 _ _ (by omega) (by omega), wr _ _ (by omega) (by omega), wr _ _ (by omega) (by omega), wr _ _ (by omega) (by omega)]
              exact q2 s hs'
            · dsimp only
              rw [xput_ne (by omega), xput_ne (by omega)]
              exact z2
            · dsimp only
              rw [xput_ne (by omega), xput_eq, x1]
            · dsimp only
              rw [xput_eq, x2]
            · dsimp only
              rw [xput_ne (by omega), xput_ne (by omega), z1 _ _ (by omega) (by omega)]
              exact w46
            · dsimp only
              rw [xput_ne (by omega), xput_ne (by omega)]
              exact z3
            · dsimp only
              rw [xput_ne (by omega), xput_ne (by omega), z1 _ _ (by omega) (by omega)]
              exact f46 a j c1 c2
          rw [hir, bind_some', xj_eq]
          by_cases cr : rdyF β (Mf (prm β)).1 o = -1
          · rw [if_pos ⟨c', cr⟩] at mn
            rw [cr] at x3
            rw [if_pos cr, zI_of (n := 0) (by omega) (by omega), if_pos rfl, xlet_eq, w47, hor _ hmsl, ← mn]
            refine fin (xput t2 184 47 (msP β (Mf (prm β)).1 i (o + 1) : Int)) (fun a j _ c2 => xput_ne c2) ?_ xput_eq
            rw [xput_ne (by omega), wr _ _ (by omega) (by omega), q3, x3]
            omega
          · rw [if_neg (fun h => cr h.2)] at mn
            have e208 : t2 208 i = rdC 0 β (Mf (prm β)).1 o i := by rw [wr _ _ (by omega) (by omega)]; exact q3
            rw [if_neg cr, zI_of (n := 1) (by omega) (by omega), if_neg (by omega), xck_of (by omega) (by omega), hra, bind_some', xck_of (by omega) (by omega), xlet_eq, e208, r_greater (by omega) (by omega) (by omega) (by omega), ← x3]
            refine fin (xput t2 208 i (rdC 0 β (Mf (prm β)).1 (o + 1) i)) (fun a j c1 _ => xput_ne c1) xput_eq ?_
            rw [xput_ne (by omega), w47, mn]
        · rw [if_neg c0]
          simp only [xlet_eq]
          exact stay (fun z => c0 (by omega))
      · rw [if_neg c4, zI_of (n := 0) (by omega) (by omega), if_pos rfl]
        simp only [xlet_eq]
        exact stay (fun z => c4 z.1)
    · rintro ⟨u, t1⟩ ⟨q1, q2, q3, q4, q5, q6, q7, q8⟩ rec1
      dsimp only at q1 q2 q3 q4 q5 q6 q7 q8 ⊢
      subst q1
      obtain ⟨hs1, hG1⟩ := hnG t1 q8
      have e9 : t1 k (9 : Int).toNat = β 9 := by rw [hs1, tn_lit.2.2.2.2.2.2.2.2.2.1, g9]
      rw [xck_of (by omega) (by omega)]
      simp only [e9]
      rw [zI_of (n := β 9) (by omega) (by omega), zI_of (n := (((β 9).toNat : Nat) : Int)) (by omega) (by omega), if_pos (by omega), xlet_eq]
      refine hrec _ ⟨by (try dsimp only); omega, fun s hs' => ?_, by rw [← odP_row]; exact q6, by rw [← msP_row]; exact q7, q8⟩
      by_cases d : s = i
      · rw [d]
        exact ⟨q3, q4, q5⟩
      · exact q2 s (by omega)
    · dsimp only
      rw [xput_ne (by omega), xput_ne (by omega), xput_ne (by omega), xput_ne (by omega), xput_ne (by omega), xput_ne (by omega), xput_ne (by omega), xput_ne (by omega), xput_ne (by omega)]
      exact h2 s hs
    · dsimp only
      rw [xput_ne (by omega), xput_ne (by omega), xput_eq]
      rfl
    · dsimp only
      rw [xput_ne (by omega), xput_eq]
      rfl
    · dsimp only
      rw [xput_eq]
      rfl
    · dsimp only
      rw [xput_ne (by omega), xput_ne (by omega), xput_ne (by omega)]
      exact h3
    · dsimp only
      rw [xput_ne (by omega), xput_ne (by omega), xput_ne (by omega)]
      exact h4
    · dsimp only
      rw [xput_ne (by omega), xput_ne (by omega), xput_ne (by omega)]
      exact h5 k j c1 c2
  · rintro ⟨u, t⟩ ⟨h1, h2, h3, h4, h5⟩ rec
    dsimp only at h1 h2 h3 h4 h5 ⊢
    subst h1
    have e6 : t k (6 : Int).toNat = (S : Int) := by rw [(hnG t h5).1, tn_lit.2.2.2.2.2.2.1, g6, hS]
    rw [xck_of (by omega) (by omega)]
    simp only [e6]
    rw [odP_end hV hS] at h3
    rw [msP_end hV hS] at h4
    rw [if_pos (Int.le_refl _), xlet_eq, h3, h4, nand_of (show odF β (β 9).toNat < 128 from b7_lt _) (show msF β (Mf (prm β)).1 (β 9).toNat < 128 from b7_lt _)]
    refine OK_some ⟨fun s hs' => ?_, xput_eq, ?_, fun k j c1 c2 => ?_⟩
    · rw [xput_ne (by omega), xput_ne (by omega), xput_ne (by omega)]
      exact h2 s hs'
    · rw [xput_ne (by omega)]
      exact h4
    · rw [xput_ne (by omega)]
      exact h5 k j c1 c2
  · dsimp only
    rw [xput_ne (by omega), xput_eq, odP_0]
    rfl
  · dsimp only
    rw [xput_eq, msP_0]
    rfl
  · dsimp only
    rw [xput_ne (by omega), xput_ne (by omega)]
end PLB
