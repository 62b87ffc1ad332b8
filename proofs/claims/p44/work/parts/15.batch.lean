/-! THE BATCHES: which dough each is of, in the order of the due minutes -/
theorem loop_det {α ρ : Type} {b : (α → Option ρ) → α → Option ρ} {P : ρ → Prop} (N : Nat) (st : Nat → α) {t0 : α} (h0 : t0 = st 0) (hs : ∀ i, i < N → ∀ rec : α → Option ρ, b rec (st i) = rec (st (i + 1))) {n : Nat} (hn : N < n) (he : ∀ rec : α → Option ρ, OK (b rec (st N)) P) : OK (loopF b n t0) P := by
  refine loop_for (P := P) N (fun i t => t = st i) (fun i t hi ht rec hrec => ?_) (fun t ht rec => ?_) hn h0
  · rw [ht, hs i hi]
    exact hrec _ rfl
  · rw [ht]
    exact he rec
theorem bit_tab : ∀ m : Fin 128, ∀ i : Fin 7, zI (zand (zshr (m.val : Int) (i.val : Int)) 1) = if m.val.testBit i.val = true then 1 else 0 := by decide +kernel
theorem or_tab : ∀ m : Fin 128, ∀ i : Fin 7, zor (m.val : Int) (zshl 1 (i.val : Int)) = ((m.val ||| 1 <<< i.val : Nat) : Int) := by decide +kernel
theorem bit_of {m i : Nat} (hm : m < 128) (hi : i < 7) : zI (zand (zshr (m : Int) (i : Int)) 1) = if m.testBit i = true then 1 else 0 := bit_tab ⟨m, hm⟩ ⟨i, hi⟩
theorem or_of {m i : Nat} (hm : m < 128) (hi : i < 7) : zor (m : Int) (zshl 1 (i : Int)) = ((m ||| 1 <<< i : Nat) : Int) := or_tab ⟨m, hm⟩ ⟨i, hi⟩
theorem tb_or (m i j : Nat) : (m ||| 1 <<< i).testBit j = (m.testBit j || decide (i = j)) := by
  rw [Nat.testBit_or, Nat.one_shiftLeft, Nat.testBit_two_pow]
theorem tb_lt {m n : Nat} (h : ∀ j, m.testBit j = true → j < n) : m < 2 ^ n := by
  refine Nat.lt_pow_two_of_testBit m fun j hj => ?_
  cases e : m.testBit j with
  | false => rfl
  | true => exact absurd (h j e) (by omega)
def pickT (due : Nat → Int) (m : Nat) : Nat → Option Nat
  | 0 => none
  | d + 1 => if m.testBit d = true then pickT due m d else match pickT due m d with
    | none => some d
    | some c => if due d < due c then some d else some c
theorem pickT_some {due : Nat → Int} {m : Nat} : ∀ {n c : Nat}, pickT due m n = some c → c < n ∧ m.testBit c = false := by
  intro n
  induction n with
  | zero => intro c h; cases h
  | succ n ih =>
    intro c h
    rw [pickT] at h
    by_cases q : m.testBit n = true
    · rw [if_pos q] at h
      have := ih h
      exact ⟨by omega, this.2⟩
    · rw [if_neg q] at h
      cases e : pickT due m n with
      | none =>
        rw [e] at h
        cases h
        exact ⟨by omega, bfalse q⟩
      | some d =>
        rw [e] at h
        dsimp only at h
        have := ih e
        split at h
        · cases h
          exact ⟨by omega, bfalse q⟩
        · cases h
          exact ⟨by omega, this.2⟩
theorem pickT_none {due : Nat → Int} {m : Nat} : ∀ {n : Nat}, pickT due m n = none → ∀ d, d < n → m.testBit d = true := by
  intro n
  induction n with
  | zero => intro _ d hd; exact absurd hd (Nat.not_lt_zero _)
  | succ n ih =>
    intro h d hd
    rw [pickT] at h
    by_cases q : m.testBit n = true
    · rw [if_pos q] at h
      by_cases e : d = n
      · rw [e]; exact q
      · exact ih h d (by omega)
    · rw [if_neg q] at h
      cases e : pickT due m n with
      | none => rw [e] at h; cases h
      | some c =>
        rw [e] at h
        dsimp only at h
        split at h <;> cases h
def oI : Option Nat → Int
  | none => -1
  | some c => (c : Int)
def blT (β : Nat → Int) : Nat → Nat × List Nat
  | 0 => (0, [])
  | k + 1 => match pickT (fun d => dueF 1440 β (d : Int)) (blT β k).1 (β 4).toNat with
    | none => blT β k
    | some p => ((blT β k).1 ||| 1 <<< p, (blT β k).2 ++ List.replicate (batchesF β p).toNat p)
def bl (β : Nat → Int) : List Nat := (blT β (β 4).toNat).2
/-- how many of the first bits are set -/
def cntB (m : Nat) (n : Nat) : Int := sumTo n (fun d => if m.testBit d = true then 1 else 0)
def sumB (β : Nat → Int) (m n : Nat) : Int := sumTo n (fun d => if m.testBit d = true then batchesF β d else 0)
theorem blT_inv {β : Nat → Int} (hV : V β) : ∀ k, k ≤ (β 4).toNat → (∀ j, (blT β k).1.testBit j = true → j < (β 4).toNat) ∧ cntB (blT β k).1 (β 4).toNat = k ∧ (∀ b, b ∈ (blT β k).2 → b < (β 4).toNat) ∧ ((blT β k).2.length : Int) = sumB β (blT β k).1 (β 4).toNat ∧ (∀ d, ((blT β k).2.count d : Int) = if (blT β k).1.testBit d = true then batchesF β d else 0) := by
  intro k
  induction k with
  | zero =>
    intro _
    refine ⟨fun j h => by simp [blT] at h, sumTo_zero (fun i _ => by simp [blT]), fun b h => absurd h List.not_mem_nil, ?_, fun d => by simp [blT]⟩
    symm
    exact sumTo_zero (fun i _ => by simp [blT])
  | succ k ih =>
    intro hk
    obtain ⟨h1, h2, h3, h4, h5⟩ := ih (by omega)
    rw [blT]
    cases e : pickT (fun d => dueF 1440 β (d : Int)) (blT β k).1 (β 4).toNat with
    | none =>
      have := pickT_none e
      have hc : cntB (blT β k).1 (β 4).toNat = (β 4).toNat := by
        unfold cntB
        have : ∀ n, n ≤ (β 4).toNat → sumTo n (fun d => if (blT β k).1.testBit d = true then (1 : Int) else 0) = n := by
          intro n
          induction n with
          | zero => intro _; rfl
          | succ n ih2 =>
            intro hn
            rw [sumTo, ih2 (by omega), if_pos (this n (by omega))]
            omega
        exact this _ (Nat.le_refl _)
      omega
    | some p =>
      have hp := pickT_some e
      dsimp only
      generalize (blT β k).1 = m at *
      generalize (blT β k).2 = l at *
      have hbt : ∀ d, (m ||| 1 <<< p).testBit d = (m.testBit d || decide (p = d)) := tb_or m p
      have hbf := batchesF_bd hV (d := p) (by omega)
      refine ⟨fun j h => ?_, ?_, fun b h => ?_, ?_, fun d => ?_⟩
      · rw [hbt] at h
        simp at h
        rcases h with h | h
        · exact h1 j h
        · omega
      · have : cntB (m ||| 1 <<< p) (β 4).toNat = cntB m (β 4).toNat + 1 := by
          unfold cntB
          rw [sumTo_upd (b := p) (f := fun d => if m.testBit d = true then (1 : Int) else 0) hp.1 (fun i hi => by have hpi : ¬ p = i := fun z => hi z.symm; simp [hbt, hpi])]
          simp only [hbt]
          simp [hp.2]
        omega
      · rcases List.mem_append.mp h with h | h
        · exact h3 b h
        · rw [(List.mem_replicate.mp h).2]
          exact hp.1
      · rw [List.length_append, List.length_replicate]
        have : sumB β (m ||| 1 <<< p) (β 4).toNat = sumB β m (β 4).toNat + batchesF β p := by
          unfold sumB
          rw [sumTo_upd (b := p) (f := fun d => if m.testBit d = true then batchesF β d else 0) hp.1 (fun i hi => by have hpi : ¬ p = i := fun z => hi z.symm; simp [hbt, hpi])]
          simp only [hbt]
          simp [hp.2]
        omega
      · rw [List.count_append, List.count_replicate, hbt]
        have := h5 d
        by_cases q : p = d
        · subst q
          rw [hp.2] at this
          simp at this
          simp [hp.2]
          omega
        · have q' : ¬ (p == d) = true := by simpa using q
          simp only [q, q', decide_false, Bool.or_false]
          simp
          exact this
theorem cnt_full {m n : Nat} (h : cntB m n = n) : ∀ d, d < n → m.testBit d = true := by
  induction n with
  | zero => intro d hd; exact absurd hd (Nat.not_lt_zero _)
  | succ n ih =>
    intro d hd
    unfold cntB at h ih
    rw [sumTo] at h
    have hb := sumTo_bd (n := n) (f := fun d => if m.testBit d = true then (1 : Int) else 0) (lo := 0) (hi := 1) (fun i _ => by split <;> omega)
    by_cases q : m.testBit n = true
    · rw [if_pos q] at h
      by_cases e : d = n
      · rw [e]; exact q
      · exact ih (by omega) d (by omega)
    · rw [if_neg q] at h
      omega
/-- as many batches as needed, of each dough its own -/
theorem bl_len {β : Nat → Int} (hV : V β) : ((bl β).length : Int) = allF β ∧ (∀ b, b ∈ bl β → (b : Int) < β 4) ∧ (∀ d : Nat, (d : Int) < β 4 → ((bl β).count d : Int) = batchesF β d) := by
  obtain ⟨h1, h2, h3, h4, h5⟩ := blT_inv hV (β 4).toNat (Nat.le_refl _)
  have hf := cnt_full h2
  refine ⟨?_, fun b hb => by have := h3 b hb; omega, fun d hd => ?_⟩
  · unfold bl
    rw [h4]
    unfold sumB allF
    exact sumTo_congr fun i hi => by rw [if_pos (hf i hi)]
  · unfold bl
    rw [h5 d, if_pos (hf d (by omega))]
/-- up to a turn there are no more than in all -/
theorem blT_le {β : Nat → Int} (hV : V β) {k : Nat} (hk : k ≤ (β 4).toNat) : ((blT β k).2.length : Int) ≤ allF β := by
  obtain ⟨h1, h2, h3, h4, h5⟩ := blT_inv hV k hk
  rw [h4]
  refine sumTo_le fun i hi => ?_
  have := (batchesF_bd hV (d := i) (by omega)).1
  split <;> omega
theorem blT_more {β : Nat → Int} (hV : V β) {k : Nat} (hk : k < (β 4).toNat) : ∃ p, pickT (fun d => dueF 1440 β (d : Int)) (blT β k).1 (β 4).toNat = some p ∧ p < (β 4).toNat ∧ blT β (k + 1) = ((blT β k).1 ||| 1 <<< p, (blT β k).2 ++ List.replicate (batchesF β p).toNat p) := by
  cases e : pickT (fun d => dueF 1440 β (d : Int)) (blT β k).1 (β 4).toNat with
  | some p => exact ⟨p, rfl, (pickT_some e).1, by rw [blT, e]⟩
  | none =>
    obtain ⟨h1, h2, h3, h4, h5⟩ := blT_inv hV k (by omega)
    have := pickT_none e
    have hc : ∀ n, n ≤ (β 4).toNat → sumTo n (fun d => if (blT β k).1.testBit d = true then (1 : Int) else 0) = n := by
      intro n
      induction n with
      | zero => intro _; rfl
      | succ n ih2 =>
        intro hn
        rw [sumTo, ih2 (by omega), if_pos (this n (by omega))]
        omega
    have := hc _ (Nat.le_refl _)
    unfold cntB at h2
    omega
theorem Bk_frame {σ σ' : xS} {b : Nat} {β : Nat → Int} {e : Int} (h : Bk σ b β e) (hf : ∀ k j, b ≤ k → k < b + 54 → (k = b → j ≠ 4 ∧ j ≠ 6 ∧ j ≠ 9 ∧ j ≠ 10 ∧ j ≠ 12 → σ' k j = σ k j) ∧ (k ≠ b → σ' k j = σ k j)) (hV : V β) : Bk σ' b β e := by
  obtain ⟨b0, b1, b2, b3, b4, b5, b6, b7, b8, b9, bd, bo, bs, bv, br⟩ := h
  obtain ⟨v0, v1, v2, v3, v4, v5, v6, v7, v8, v9, -⟩ := hV
  have g : ∀ j, (j ≠ 4 ∧ j ≠ 6 ∧ j ≠ 9 ∧ j ≠ 10 ∧ j ≠ 12) → σ' b j = σ b j := fun j hj => (hf b j (by omega) (by omega)).1 rfl hj
  have g' : ∀ k j, b < k → k < b + 54 → σ' k j = σ k j := fun k j h1 h2 => (hf k j (by omega) h2).2 (by omega)
  refine ⟨by rw [g 0 (by omega)]; exact b0, by rw [g 1 (by omega)]; exact b1, by rw [g 2 (by omega)]; exact b2, by rw [g 3 (by omega)]; exact b3, by rw [g 5 (by omega)]; exact b4, by rw [g 7 (by omega)]; exact b5, by rw [g 8 (by omega)]; exact b6, by rw [g' _ _ (by omega) (by omega)]; exact b7, by rw [g 11 (by omega)]; exact b8, by rw [g 13 (by omega)]; exact b9, fun d hd w hw => ?_, fun o ho w hw => ?_, fun s hs => ?_, fun v hv => ?_, fun o ho w hw => ?_⟩
  · rw [g' _ _ (by omega) (by omega)]; exact bd d hd w hw
  · rw [g' _ _ (by omega) (by omega)]; exact bo o ho w hw
  · rw [g' _ _ (by omega) (by omega), g' _ _ (by omega) (by omega), g' _ _ (by omega) (by omega), g' _ _ (by omega) (by omega)]; exact bs s hs
  · rw [g' _ _ (by omega) (by omega)]; exact bv v hv
  · rw [g' _ _ (by omega) (by omega)]; exact br o ho w hw
theorem Bk_same {σ σ' : xS} {b : Nat} {β : Nat → Int} {e : Int} (h : Bk σ b β e) (hV : V β) (hf : ∀ k j, b ≤ k → k < b + 54 → σ' k j = σ k j) : Bk σ' b β e :=
  Bk_frame h (fun k j h1 h2 => ⟨fun _ _ => hf k j h1 h2, fun _ => hf k j h1 h2⟩) hV
def lG (l : List Nat) (i : Nat) : Int := ((l.getD i 0 : Nat) : Int)
theorem lG_l {l m : List Nat} {i : Nat} (h : i < l.length) : lG (l ++ m) i = lG l i := by
  unfold lG
  rw [List.getD_eq_getElem?_getD, List.getD_eq_getElem?_getD, List.getElem?_append_left h]
theorem lG_r {l : List Nat} {n p i : Nat} (h : l.length ≤ i) (h2 : i < l.length + n) : lG (l ++ List.replicate n p) i = p := by
  unfold lG
  rw [List.getD_eq_getElem?_getD, List.getElem?_append_right h, List.getElem?_replicate, if_pos (by omega)]
  rfl
theorem xput_eq {σ : xS} {k j : Nat} {v : Int} : xput σ k j v k j = v := xput_at
theorem xput_ne {σ : xS} {k j a i : Nat} {v : Int} (h : ¬ (a = k ∧ i = j)) : xput σ k j v a i = σ a i := if_neg h
theorem oI_none : oI none = -1 := rfl
theorem oI_some (c : Nat) : oI (some c) = (c : Int) := rfl
theorem pickT_step {due : Nat → Int} {m i : Nat} : pickT due m (i + 1) = if m.testBit i = true then pickT due m i else match pickT due m i with
    | none => some i
    | some c => if due i < due c then some i else some c := rfl
/-- the class numbers the batches -/
theorem c_numberBatches {σ : xS} {q b n : Nat} {β : Nat → Int} {e : Int} (hB : Bk σ b β e) (hV : V β) (hn : 4000000 ≤ n) (hq : b + 54 ≤ q) (h60 : allF β ≤ 60) :
    OK (m_X4_numberBatches n q b σ) (fun σ' => σ' q 2 = (bl β).length ∧ (∀ i, i < (bl β).length → σ' (q + 1) i = lG (bl β) i) ∧ (∀ k j, k ≠ q + 1 → ¬ (k = q ∧ j = 2) → σ' k j = σ k j)) := by
  have v4 := hV.2.2.2.2.1
  unfold m_X4_numberBatches
  rw [xlet_eq]
  refine loop_for (β 4).toNat (fun k t => t.1 = ((blT β k).1 : Int) ∧ t.2.1 = (k : Int) ∧ t.2.2 q 2 = ((blT β k).2.length : Int) ∧ (∀ i, i < (blT β k).2.length → t.2.2 (q + 1) i = lG (blT β k).2 i) ∧ (∀ k j, k ≠ q + 1 → ¬ (k = q ∧ j = 2) → t.2.2 k j = σ k j)) ?_ ?_ (by omega) ?_
  · rintro k ⟨t1, t2, τ⟩ hk ⟨h1, h2, h3, h4, h5⟩ rec hrec
    dsimp only at h1 h2 h3 h4 h5 ⊢
    subst h1 h2
    have hBt : Bk τ b β e := Bk_same hB hV (fun k' j a c => h5 k' j (by omega) (by omega))
    have b4 := hBt.2.2.2.2.1
    obtain ⟨i1, i2, i3, i4, i5⟩ := blT_inv hV k (by omega)
    obtain ⟨p, hp, hpn, hbk⟩ := blT_more hV hk
    have hm64 : (blT β k).1 < 128 := Nat.lt_of_lt_of_le (tb_lt (n := 7) (fun j hj => by have := i1 j hj; omega)) (by decide)
    have hle := blT_le hV (k := k + 1) (by omega)
    rw [hbk] at hle
    simp only [List.length_append, List.length_replicate] at hle
    have hbf := batchesF_bd hV (d := p) (by omega)
    simp (disch := omega) only [zI_of, b4, if_neg, xlet_eq]
    refine loop_det (β 4).toNat (fun i => (oI (pickT (fun d => dueF 1440 β (d : Int)) (blT β k).1 i), (i : Int))) rfl ?_ (by omega) ?_
    · intro i hi rec2
      have hb := bit_of (m := (blT β k).1) (i := i) hm64 (by omega)
      dsimp only
      rw [pickT_step, hb]
      simp (disch := omega) only [zI_of, b4, if_neg, xj_eq, xlet_eq]
      by_cases q1 : (blT β k).1.testBit i = true
      · rw [if_pos q1, if_pos q1, if_neg (by decide)]
        rfl
      · rw [if_neg q1, if_neg q1, if_pos rfl]
        cases e2 : pickT (fun d => dueF 1440 β (d : Int)) (blT β k).1 i with
        | none =>
          rw [oI_none]
          simp (disch := omega) only [zI_of]
          rw [if_pos trivial]
          rfl
        | some c =>
          have hc := (pickT_some e2).1
          have hd1 := dueF_bd hV (i : Int) 1440 (by omega) (β 9).toNat (Nat.le_refl _)
          have hd2 := dueF_bd hV (c : Int) 1440 (by omega) (β 9).toNat (Nat.le_refl _)
          change 0 ≤ dueF 1440 β (i : Int) ∧ dueF 1440 β (i : Int) ≤ 1440 at hd1
          change 0 ≤ dueF 1440 β (c : Int) ∧ dueF 1440 β (c : Int) ≤ 1440 at hd2
          rw [oI_some]
          simp (disch := omega) only [zI_of, if_neg, c_dueOf hBt hV hn (d := (i : Int)) (by omega) (by omega), c_dueOf hBt hV hn (d := (c : Int)) (by omega) (by omega), bind_some']
          by_cases q2 : dueF 1440 β (i : Int) < dueF 1440 β (c : Int)
          · rw [if_neg (by omega), if_pos q2]
            rfl
          · rw [if_pos (by omega), if_neg q2]
            rfl
    · intro rec2
      dsimp only
      rw [hp, oI_some]
      have hor := or_of (m := (blT β k).1) (i := p) hm64 (by omega)
      rw [hor, show (((β 4).toNat : Nat) : Int) = β 4 by omega]
      have hcb := c_batchesOf hBt hV hn (d := p) (by omega)
      simp (disch := omega) only [zI_of, b4, if_neg, if_pos, xlet_eq, hcb, bind_some', h3]
      rw [zmin_of (by omega) (by omega) (by omega) (by omega)]
      have hmin : min (60 : Int) (((blT β k).2.length : Int) + batchesF β p) = ((blT β k).2.length : Int) + batchesF β p := by
        omega
      rw [hmin]
      refine loop_for (batchesF β p).toNat (fun j (τ' : xS) => τ' q 2 = (((blT β k).2.length + j : Nat) : Int) ∧ (∀ i, i < (blT β k).2.length → τ' (q + 1) i = lG (blT β k).2 i) ∧ (∀ i, (blT β k).2.length ≤ i → i < (blT β k).2.length + j → τ' (q + 1) i = (p : Int)) ∧ (∀ k j, k ≠ q + 1 → ¬ (k = q ∧ j = 2) → τ' k j = σ k j)) ?_ ?_ (by omega) ⟨by rw [h3]; rfl, h4, fun i a c => by omega, h5⟩
      · rintro j τ' hj ⟨g1, g2, g3, g4⟩ rec3 hrec3
        simp (disch := omega) only [zI_of, g1, if_neg, xck_of, xlet_eq, tn_cast]
        refine hrec3 _ ⟨?_, fun i hi => ?_, fun i a c => ?_, fun k' j' a c => ?_⟩
        · rw [xput_eq, xput_ne (by omega), g1]
          omega
        · rw [xput_ne (by omega), xput_ne (by omega)]
          exact g2 i hi
        · rw [xput_ne (by omega)]
          by_cases ei : i = (blT β k).2.length + j
          · rw [ei, xput_eq]
          · rw [xput_ne (by omega)]
            exact g3 i a (by omega)
        · rw [xput_ne c, xput_ne (by omega)]
          exact g4 k' j' a c
      · rintro τ' ⟨g1, g2, g3, g4⟩ rec3
        simp (disch := omega) only [zI_of, g1, if_pos, xlet_eq]
        refine hrec _ ?_
        rw [hbk]
        dsimp only
        refine ⟨rfl, by omega, ?_, fun i hi => ?_, g4⟩
        · rw [g1, List.length_append, List.length_replicate]
        · rw [List.length_append, List.length_replicate] at hi
          by_cases ei : i < (blT β k).2.length
          · rw [g2 i ei]
            exact (lG_l ei).symm
          · rw [g3 i (by omega) hi]
            exact (lG_r (by omega) hi).symm
  · rintro ⟨t1, t2, τ⟩ ⟨h1, h2, h3, h4, h5⟩ rec
    dsimp only at h1 h2 h3 h4 h5 ⊢
    have hBt : Bk τ b β e := Bk_same hB hV (fun k' j a c => h5 k' j (by omega) (by omega))
    have b4 := hBt.2.2.2.2.1
    rw [h2]
    simp (disch := omega) only [zI_of, b4, if_pos]
    exact OK_some ⟨h3, h4, h5⟩
  · exact ⟨rfl, rfl, (xput_eq : xput σ q 2 0 q 2 = 0), fun i hi => absurd hi (Nat.not_lt_zero _), fun k j a c => xput_ne c⟩
