/-! the class's night: loaves, the whole of run -/
/-- a batch of a dough that was baked -/
def bkB (β : Nat → Int) (N : Nat → Nat → Int) (d b : Nat) : Bool := decide ((bl β).getD b 0 = d) && decide (N 2 b ≠ -1)
/-- how many of the first k -/
def cbF (β : Nat → Int) (N : Nat → Nat → Int) (d k : Nat) : Int := sumTo k (fun b => if bkB β N d b = true then 1 else 0)
def takI (β : Nat → Int) (N : Nat → Nat → Int) (d : Nat) (l : Int) : Nat := firstTo (fun b => bkB β N d b && decide (l < cbF β N d (b + 1) * dF β d 7)) (bl β).length
/-- the minute at which a loaf is taken out, from minute 0; none: -1 -/
def takF (β : Nat → Int) (N : Nat → Nat → Int) (d : Nat) (l : Int) : Int := if takI β N d l < (bl β).length then N 2 (takI β N d l) + pT (prm β) (takI β N d l) 5 else -1
def rdyF (β : Nat → Int) (N : Nat → Nat → Int) (o : Nat) : Int :=
  if oF β o 4 = 0 then (if takF β N (oF β o 1).toNat (aheadF β o + oF β o 2 - 1) = -1 then -1 else takF β N (oF β o 1).toNat (aheadF β o + oF β o 2 - 1) + β 1) else -1
def oldF (β : Nat → Int) (N : Nat → Nat → Int) (o : Nat) : Int := if oF β o 4 = 0 then takF β N (oF β o 1).toNat (aheadF β o) else -1
section CL
variable {σ : xS} {q b n : Nat} {β : Nat → Int} {e f t : Int} {N : Nat → Nat → Int} {M : NS}
theorem cbF_bd (hP : PV (prm β)) (d : Nat) {k : Nat} (hk : k ≤ (bl β).length) : 0 ≤ cbF β N d k ∧ cbF β N d k ≤ 60 := by
  have h := cnt_bd (n := k) (bkB β N d)
  have h60 : (bl β).length ≤ 60 := hP.2.2.1
  unfold cbF
  omega
theorem mul_bd {x y : Int} (hx : 0 ≤ x ∧ x ≤ 60) (hy : 0 ≤ y ∧ y ≤ 1000) : 0 ≤ x * y ∧ x * y ≤ 60000 := by
  have h1 : x * y ≤ 60 * y := Int.mul_le_mul_of_nonneg_right hx.2 hy.1
  have h2 : 0 ≤ x * y := Int.mul_nonneg hx.1 hy.1
  omega
theorem c_takenOut (hB : Bk σ b β e) (hV : V β) (hP : PV (prm β)) (hR : RN σ q β f N) (hN : NB (prm β) N) (hn : 4000000 ≤ n) (hf : 0 ≤ f ∧ f ≤ 1439) {d : Nat} (hd : (d : Int) < β 4) {l : Int} (hl : -1 ≤ l ∧ l ≤ 100000) : m_X4_takenOut n q b d l σ = some (shF f (takF β N d l)) := by
  have h60 : (bl β).length ≤ 60 := hP.2.2.1
  have r2 := hR.2.1
  have v4 := hV.2.2.2.2.1
  have vd := hV.2.2.2.2.2.2.2.2.2.2.1 d hd
  have hy := hB.2.2.2.2.2.2.2.2.2.2.1 d hd 7 (by omega)
  have hle := firstTo_le (fun b => bkB β N d b && decide (l < cbF β N d (b + 1) * dF β d 7)) (bl β).length
  change takI β N d l ≤ (bl β).length at hle
  unfold m_X4_takenOut
  refine loop_eq (takI β N d l) (fun i => (cbF β N d i * dF β d 7, (i : Int))) (by simp [cbF, sumTo]) ?_ ?_ (by omega)
  · intro i hi rec
    have hi' : i < (bl β).length := by omega
    obtain ⟨hd1, hd2, hd3⟩ := c_dough hB hV hR hi'
    have hb5 := hR.2.2.2.1 i hi' 5 (by omega)
    have hb2 := hN.1 i hi' 2 (by omega)
    have hT := hP.1 i hi'
    have hfr := firstTo_before _ _ i hi
    have hc0 := mul_bd (cbF_bd (N := N) hP d (k := i) (by omega)) (y := dF β d 7) (by omega)
    have hc1 := mul_bd (cbF_bd (N := N) hP d (k := i + 1) (by omega)) (y := dF β d 7) (by omega)
    have e5' : bgF (prm β) f N 5 i = if N 2 i = -1 then -1 else N 2 i + pT (prm β) i 5 + f := rfl
    have hb5' : -1 ≤ bgF (prm β) f N 5 i ∧ bgF (prm β) f N 5 i ≤ 1000000 := by rw [e5']; exact ifbd (fun _ => by omega)
    dsimp only at hfr ⊢
    simp (disch := omega) only [zI_of (n := (i : Int)), zI_of (n := ((bl β).length : Int)), zI_of (n := (d : Int)), zI_of (n := (((bl β).getD i 0 : Nat) : Int)), zI_of (n := l), r2, hd1, if_neg, xck_of, tn_cast, tn_lit, xlet_eq, xj_eq, hb5, hy]
    by_cases c1 : (bl β).getD i 0 = d
    · rw [if_pos (by omega)]
      by_cases c2 : N 2 i = -1
      · rw [e5', if_pos c2, zI_of (by omega) (by omega), if_pos rfl]
        have : cbF β N d (i + 1) = cbF β N d i := by simp [cbF, sumTo, bkB, c2]
        rw [this]
        rfl
      · have hbk : bkB β N d i = true := by unfold bkB; rw [decide_eq_true c1, decide_eq_true c2]; rfl
        have hcb : cbF β N d (i + 1) = cbF β N d i + 1 := by
          show cbF β N d i + (if bkB β N d i = true then 1 else 0) = _
          rw [if_pos hbk]
        rw [e5', if_neg c2, zI_of (n := N 2 i + pT (prm β) i 5 + f) (by omega) (by omega), if_neg (by omega)]
        have hm : cbF β N d i * dF β d 7 + dF β d 7 = cbF β N d (i + 1) * dF β d 7 := by rw [hcb, Int.add_mul, Int.one_mul]
        rw [hm, zI_of (n := cbF β N d (i + 1) * dF β d 7) (by omega) (by omega)]
        rw [hbk] at hfr
        simp at hfr
        rw [if_pos hfr]
        rfl
    · rw [if_neg (by omega)]
      have : cbF β N d (i + 1) = cbF β N d i := by
        show cbF β N d i + (if bkB β N d i = true then 1 else 0) = _
        have hbk : bkB β N d i = false := by unfold bkB; rw [decide_eq_false c1]; rfl
        rw [hbk]; simp
      rw [this]
      rfl
  · intro rec
    unfold takF
    by_cases c : takI β N d l < (bl β).length
    · rw [if_pos c]
      have hat := firstTo_at _ _ c
      change (bkB β N d (takI β N d l) && decide (l < cbF β N d (takI β N d l + 1) * dF β d 7)) = true at hat
      generalize takI β N d l = i at *
      obtain ⟨hd1, hd2, hd3⟩ := c_dough hB hV hR c
      have hb5 := hR.2.2.2.1 i c 5 (by omega)
      have hb2 := hN.1 i c 2 (by omega)
      have hT := hP.1 i c
      have hc0 := mul_bd (cbF_bd (N := N) hP d (k := i) (by omega)) (y := dF β d 7) (by omega)
      have hc1 := mul_bd (cbF_bd (N := N) hP d (k := i + 1) (by omega)) (y := dF β d 7) (by omega)
      have e5' : bgF (prm β) f N 5 i = if N 2 i = -1 then -1 else N 2 i + pT (prm β) i 5 + f := rfl
      rw [Bool.and_eq_true, decide_eq_true_eq] at hat
      obtain ⟨hbk, hlt⟩ := hat
      have hbk' := hbk
      unfold bkB at hbk'
      rw [Bool.and_eq_true, decide_eq_true_eq, decide_eq_true_eq] at hbk'
      obtain ⟨c1, c2⟩ := hbk'
      have hcb : cbF β N d (i + 1) = cbF β N d i + 1 := by
        show cbF β N d i + (if bkB β N d i = true then 1 else 0) = _
        rw [if_pos hbk]
      have hm : cbF β N d i * dF β d 7 + dF β d 7 = cbF β N d (i + 1) * dF β d 7 := by rw [hcb, Int.add_mul, Int.one_mul]
      have hb5' : σ (q + 4 + 5) i = N 2 i + pT (prm β) i 5 + f := by rw [hb5, e5', if_neg c2]
      dsimp only
      simp (disch := omega) only [zI_of, r2, hd1, if_neg, if_pos, xck_of, tn_cast, tn_lit, xlet_eq, xj_eq, hb5', hy]
      unfold shF
      rw [if_neg (by omega)]
    · rw [if_neg c]
      dsimp only
      simp (disch := omega) only [zI_of, r2, if_pos]
      rfl
theorem takF_bd (hP : PV (prm β)) (hN : NB (prm β) N) (d : Nat) (l : Int) : -1 ≤ takF β N d l ∧ takF β N d l ≤ 201000 := by
  unfold takF
  split
  · next c =>
    have h := hN.1 _ c 2 (by omega)
    have hT := hP.1 _ c
    omega
  · omega
theorem c_giveLoaves (hB : Bk σ b β e) (hV : V β) (hP : PV (prm β)) (hR : RN σ q β f N) (hN : NB (prm β) N) (hn : 4000000 ≤ n) (hq : b + 54 ≤ q) (hf : 0 ≤ f ∧ f ≤ 1439) :
    OK (m_X4_giveLoaves n q b σ) (fun σ' => (∀ o : Nat, (o : Int) < β 9 → σ' (q + 19) o = shF f (rdyF β N o) ∧ σ' (q + 20) o = shF f (oldF β N o)) ∧ (∀ k j, k ≠ q + 19 → k ≠ q + 20 → σ' k j = σ k j)) := by
  have v9 := hV.2.2.2.2.2.2.2.2.2.1
  have v1 := hV.2.1
  unfold m_X4_giveLoaves
  simp only [c_fill hn (show 24 ≤ 2000 by decide), bind_some']
  refine loop_for (β 9).toNat (fun i (s : Int × xS) => s.1 = (i : Int) ∧ (∀ o, o < i → s.2 (q + 19) o = shF f (rdyF β N o) ∧ s.2 (q + 20) o = shF f (oldF β N o)) ∧ (∀ o, i ≤ o → o < 24 → s.2 (q + 19) o = -1 ∧ s.2 (q + 20) o = -1) ∧ (∀ k j, k ≠ q + 19 → k ≠ q + 20 → s.2 k j = σ k j)) ?_ ?_ (by omega) ⟨rfl, fun o ho => absurd ho (Nat.not_lt_zero _), fun o _ ho => ?_, fun k j h1 h2 => ?_⟩
  · rintro i ⟨s1, τ⟩ hi ⟨g1, g2, g3, g4⟩ rec hrec
    dsimp only at g1 g2 g3 g4 ⊢
    subst g1
    have hi' : (i : Int) < β 9 := by omega
    have hBt : Bk τ b β e := Bk_same hB hV (fun k j a d => g4 k j (by omega) (by omega))
    have hRt : RN τ q β f N := RN_of hR (g4 _ _ (by omega) (by omega)) (g4 _ _ (by omega) (by omega)) (fun k j _ _ _ _ _ => g4 k j (by omega) (by omega))
    have b9 := hBt.2.2.2.2.2.2.2.2.2.1
    have b1 := hBt.2.1
    have hr := hBt.2.2.2.2.2.2.2.2.2.2.2.2.2.2 i hi'
    have vr := hV.2.2.2.2.2.2.2.2.2.2.2.2.2.2 i hi'
    have hr1 := hr 1 (by omega)
    have hr2 := hr 2 (by omega)
    have hah := aheadF_bd hV i
    have ed : oF β i 1 = (((oF β i 1).toNat : Nat) : Int) := by omega
    have h1 := c_takenOut hBt hV hP hRt hN hn hf (d := (oF β i 1).toNat) (by omega) (l := aheadF β i + oF β i 2 - 1) (by omega)
    have h2 := c_takenOut hBt hV hP hRt hN hn hf (d := (oF β i 1).toNat) (by omega) (l := aheadF β i) (by omega)
    rw [← ed] at h1 h2
    have hk1 := takF_bd hP hN (oF β i 1).toNat (aheadF β i + oF β i 2 - 1)
    have hk2 := takF_bd hP hN (oF β i 1).toNat (aheadF β i)
    simp (disch := omega) only [zI_of (n := (i : Int)), zI_of (n := β 9), b9, if_neg, c_hasOrderN hBt hV hi', c_loavesAheadOf hBt hV hn hi', bind_some', xck_of, tn_cast, xlet_eq, xj_eq, hr1, hr2, h1, h2]
    by_cases c : oF β i 4 = 0
    · rw [if_pos c, zI_of (by omega) (by omega), if_neg (by omega), xput_ne (by omega), b1]
      have e1 : (if zI (shF f (takF β N (oF β i 1).toNat (aheadF β i + oF β i 2 - 1))) = -1 then (-1 : Int) else shF f (takF β N (oF β i 1).toNat (aheadF β i + oF β i 2 - 1)) + β 1) = shF f (rdyF β N i) := by
        unfold rdyF
        rw [if_pos c]
        by_cases c2 : takF β N (oF β i 1).toNat (aheadF β i + oF β i 2 - 1) = -1
        · rw [if_pos c2]
          have : shF f (takF β N (oF β i 1).toNat (aheadF β i + oF β i 2 - 1)) = -1 := if_pos c2
          rw [this, zI_of (by omega) (by omega), if_pos rfl]
          rfl
        · rw [if_neg c2]
          have : shF f (takF β N (oF β i 1).toNat (aheadF β i + oF β i 2 - 1)) = takF β N (oF β i 1).toNat (aheadF β i + oF β i 2 - 1) + f := if_neg c2
          rw [this, zI_of (by omega) (by omega), if_neg (by omega)]
          unfold shF
          rw [if_neg (by omega)]
          omega
      rw [e1]
      refine hrec _ ⟨by dsimp only; omega, fun o ho => ?_, fun o h1 h2 => ?_, fun k j a1 a2 => ?_⟩
      · dsimp only
        by_cases co : o = i
        · subst co
          rw [xput_eq, xput_ne (by omega), xput_eq]
          refine ⟨rfl, ?_⟩
          unfold oldF
          rw [if_pos c]
        · rw [xput_ne (by omega), xput_ne (by omega), xput_ne (by omega), xput_ne (by omega)]
          exact g2 o (by omega)
      · dsimp only
        rw [xput_ne (by omega), xput_ne (by omega), xput_ne (by omega), xput_ne (by omega)]
        exact g3 o (by omega) h2
      · dsimp only
        rw [xput_ne (by omega), xput_ne (by omega)]
        exact g4 k j a1 a2
    · rw [if_neg c, zI_of (by omega) (by omega), if_pos rfl]
      refine hrec _ ⟨by dsimp only; omega, fun o ho => ?_, fun o h1 h2 => g3 o (by omega) h2, g4⟩
      dsimp only
      by_cases co : o = i
      · subst co
        unfold rdyF oldF
        rw [if_neg c, if_neg c]
        exact g3 o (Nat.le_refl _) (by omega)
      · exact g2 o (by omega)
  · rintro ⟨s1, τ⟩ ⟨g1, g2, g3, g4⟩ rec
    dsimp only at g1 g2 g3 g4 ⊢
    subst g1
    have hBt : Bk τ b β e := Bk_same hB hV (fun k j a d => g4 k j (by omega) (by omega))
    have b9 := hBt.2.2.2.2.2.2.2.2.2.1
    rw [show (((β 9).toNat : Nat) : Int) = β 9 by omega]
    simp (disch := omega) only [zI_of (n := β 9), b9, if_pos]
    exact OK_some ⟨fun o ho => g2 o (by omega), g4⟩
  · dsimp only
    refine ⟨?_, ?_⟩
    · rw [if_neg (by omega), if_pos (by omega)]
    · rw [if_pos (by omega)]
  · dsimp only
    rw [if_neg (by omega), if_neg (by omega)]
/-- the end of the night, from minute 0 -/
def endF (P : NP) (N : Nat → Nat → Int) : Nat → Int
  | 0 => 0
  | k + 1 => max (endF P N k) (if N 3 k ≠ -1 then N 3 k else N 2 k + pT P k 5)
/-- the class's night, done -/
def RF (σ : xS) (q : Nat) (β : Nat → Int) (f : Int) : Prop :=
  RN σ q β f (Mf (prm β)).1 ∧ σ q 1 = f + endF (prm β) (Mf (prm β)).1 (bl β).length ∧ (∀ o : Nat, (o : Int) < β 9 → σ (q + 19) o = shF f (rdyF β (Mf (prm β)).1 o) ∧ σ (q + 20) o = shF f (oldF β (Mf (prm β)).1 o))
theorem Mf_I (hV : V β) (h60 : allF β ≤ 60) : Minv (prm β) 124001 (Mf (prm β)) := Minv_t (prm_V hV h60) 124001
theorem Mf_NB (hV : V β) (h60 : allF β ≤ 60) : NB (prm β) (Mf (prm β)).1 := (NB_of (prm_V hV h60) (Mf_I hV h60) (by omega)).1
theorem endF_bd {P : NP} {N : Nat → Nat → Int} (hP : PV P) (hN : NB P N) : ∀ k, k ≤ pn P → 0 ≤ endF P N k ∧ endF P N k ≤ 201000
  | 0, _ => by simp [endF]
  | k + 1, h => by
    have ih := endF_bd hP hN k (by omega)
    have h3 := hN.1 k (by omega) 3 (by omega)
    have h2 := hN.1 k (by omega) 2 (by omega)
    have hT := hP.1 k (by omega)
    rw [endF]
    split <;> omega
theorem c_run (hB : Bk σ b β e) (hV : V β) (hn : 4000000 ≤ n) (hq : b + 54 ≤ q) (hf : 0 ≤ f ∧ f ≤ 1439) (h60 : allF β ≤ 60) :
    OK (m_X4_run n q b f σ) (fun σ' => RF σ' q β f ∧ nfb q σ σ') := by
  have hP := prm_V hV h60
  have h6 : (bl β).length ≤ 60 := hP.2.2.1
  unfold m_X4_run
  refine OK_bind (c_begin hB hV hn hq h60) (fun τ0 h0 => ?_)
  obtain ⟨c0, e0, f0⟩ := h0
  refine loop_ok (fun (s : Int × Int × xS) => 0 ≤ s.2.1 ∧ s.2.2 q 1 = f ∧ nfb q σ s.2.2 ∧ ((∃ n0 : Nat, s.1 = (n0 : Int) + f ∧ n0 ≤ 126000 ∧ s.2.1 ≤ n0 ∧ RC s.2.2 q β f (Mt (prm β) n0)) ∨ (s.1 = -1 ∧ RC s.2.2 q β f (Mf (prm β)) ∧ s.2.1 ≤ 130000))) (fun s => (1000000 - s.2.1).toNat) ?_ n (f, 0, τ0) ⟨Int.le_refl _, e0, f0, Or.inl ⟨0, by simp, by omega, by simp, c0⟩⟩ (by dsimp only; omega)
  rintro ⟨m, s2, τ⟩ ⟨g0, g1, g2, g3⟩ rec hrec
  dsimp only at g0 g1 g2 g3 hrec ⊢
  have hBt : Bk τ b β e := Bk_same hB hV (fun k j a d => g2 k j (by omega))
  simp only [xj_eq]
  rcases g3 with ⟨n0, h1, h2, h3, h4⟩ | ⟨h1, h4, h3⟩
  · subst h1
    rw [if_neg (by rw [zI_of (by omega) (by omega)]; omega), if_neg (by rw [zI_of (by omega) (by omega)]; omega)]
    refine c_minute hBt hV hP h4 (Minv_t hP n0) hn hq hf (by omega) (fun τ5 c5 f5 => ?_)
    have hM : mstep (prm β) (n0 : Int) (Mt (prm β) n0) = Mt (prm β) (n0 + 1) := rfl
    rw [hM] at c5
    have hB5 : Bk τ5 b β e := Bk_same hBt hV (fun k j a d => f5 k j (by omega))
    have I5 := Minv_t hP (n0 + 1)
    have hN5 := NB_of hP I5 (by omega)
    have hQ5 : ∀ c, c ∈ (Mt (prm β) (n0 + 1)).2.2.1 → c < (bl β).length ∧ (Mt (prm β) (n0 + 1)).1 1 c ≠ -1 := fun c hc => by
      have h7 := (I5.2.2.2.2.2.2.2.1 c).mp hc
      rcases I5.2.2.1 c with z | z
      · exact absurd z h7.1
      · have := I5.1
        exact ⟨Nat.lt_of_lt_of_le z.1 this, h7.1⟩
    have hl5 : (Mt (prm β) (n0 + 1)).2.2.1.length ≤ 60 := Nat.le_trans (nodup_le _ (qR_ne I5.2.2.2.2.2.2.2.2.2.1) (fun c hc => (hQ5 c hc).1)) h6
    refine OK_bind (c_next hB5 hV hP c5 hN5.1 hn hf (by omega) hl5 hQ5) (fun v hv => ?_)
    obtain ⟨hv1, hv2⟩ := hv
    rw [xlet_eq]
    have hf5 : nfb q σ τ5 := fun k j hk => by rw [f5 k j (by omega)]; exact g2 k j hk
    rcases hv1 with ⟨hv, hx⟩ | ⟨hv, hS, hx⟩
    · refine hrec _ ⟨by dsimp only; omega, by dsimp only; rw [f5 _ _ (by omega)]; exact g1, hf5, Or.inr ⟨hv, ?_, by dsimp only; omega⟩⟩ (by dsimp only; omega)
      rw [← nxt_none hV h60 hf hx]
      exact c5
    · obtain ⟨n1, k1, k2, k3, k4⟩ := nxt_some hV h60 hf (by omega) hv hS hx
      refine hrec _ ⟨by dsimp only; omega, by dsimp only; rw [f5 _ _ (by omega)]; exact g1, hf5, Or.inl ⟨n1, k1, k3, by dsimp only; omega, ?_⟩⟩ (by dsimp only; omega)
      rw [k4]
      exact c5
  · subst h1
    have z1 : zI (-1) = -1 := zI_of (by omega) (by omega)
    rw [if_neg (by rw [zI_of (by omega) (by omega)]; omega), z1, if_pos rfl]
    obtain ⟨hR, -, -, -⟩ := h4
    have hN := Mf_NB hV h60
    have hd := Mf_done hP
    have I := Mf_I hV h60
    refine loop_for (bl β).length (fun i (s : Int × xS) => s.1 = (i : Int) ∧ s.2 q 1 = f + endF (prm β) (Mf (prm β)).1 i ∧ (∀ k j, ¬ (k = q ∧ j = 1) → s.2 k j = τ k j)) ?_ ?_ (by omega) ⟨rfl, by dsimp only; rw [g1]; simp [endF], fun _ _ _ => rfl⟩
    · rintro i ⟨s1, τ'⟩ hi ⟨u1, u2, u3⟩ rec2 hrec2
      dsimp only at u1 u2 u3 ⊢
      subst u1
      have hR' : RN τ' q β f (Mf (prm β)).1 := RN_of hR (u3 _ _ (by omega)) (u3 _ _ (by omega)) (fun k j _ _ _ _ _ => u3 k j (by omega))
      have r2 := hR'.2.1
      have hb5 := hR'.2.2.2.1 i hi 5 (by omega)
      have hb12 := (hR'.2.2.2.2.1 i hi).2.2.2
      have he := endF_bd hP hN i (by show i ≤ (bl β).length; omega)
      have hN3 := hN.1 i hi 3 (by omega)
      have hN2 := hN.1 i hi 2 (by omega)
      have hT := hP.1 i hi
      have ev : zmax (f + endF (prm β) (Mf (prm β)).1 i) (zmax (τ' (q + 4 + 5) i) (τ' (q + 12) i)) = f + endF (prm β) (Mf (prm β)).1 (i + 1) := by
        rw [hb5, hb12, endF]
        show zmax _ (zmax (if (Mf (prm β)).1 2 i = -1 then -1 else (Mf (prm β)).1 2 i + pT (prm β) i 5 + f) (if (Mf (prm β)).1 3 i = -1 then -1 else (Mf (prm β)).1 3 i + f)) = _
        by_cases c3 : (Mf (prm β)).1 3 i = -1
        · have hd2 := hd i hi
          have c2 : (Mf (prm β)).1 2 i ≠ -1 := by
            rcases hd2 with z | z
            · exact absurd c3 z
            · exact z.1
          rw [if_neg c2, if_pos c3, if_neg (by omega), zmax_of (x := (Mf (prm β)).1 2 i + pT (prm β) i 5 + f) (by omega) (by omega) (by omega) (by omega), zmax_of (by omega) (by omega) (by omega) (by omega)]
          omega
        · have c2 : (Mf (prm β)).1 2 i = -1 := by
            rcases I.2.2.2.1 i with z | z
            · exact z
            · exact absurd z.2.2.2.1 c3
          rw [if_pos c2, if_neg c3, if_pos c3, zmax_of (x := -1) (by omega) (by omega) (by omega) (by omega), zmax_of (by omega) (by omega) (by omega) (by omega)]
          omega
      simp (disch := omega) only [zI_of (n := (i : Int)), zI_of (n := ((bl β).length : Int)), r2, if_neg, xck_of, tn_cast, tn_lit, xlet_eq]
      rw [u2, ev]
      refine hrec2 _ ⟨by dsimp only; omega, xput_eq, fun k j hk => ?_⟩
      dsimp only
      rw [xput_ne hk]
      exact u3 k j hk
    · rintro ⟨s1, τ'⟩ ⟨u1, u2, u3⟩ rec2
      dsimp only at u1 u2 u3 ⊢
      subst u1
      have hR' : RN τ' q β f (Mf (prm β)).1 := RN_of hR (u3 _ _ (by omega)) (u3 _ _ (by omega)) (fun k j _ _ _ _ _ => u3 k j (by omega))
      have hB' : Bk τ' b β e := Bk_same hBt hV (fun k j a d => u3 k j (by omega))
      have r2 := hR'.2.1
      simp (disch := omega) only [zI_of (n := ((bl β).length : Int)), r2, if_pos]
      refine OK_bind (c_giveLoaves hB' hV hP hR' hN hn hq hf) (fun τ6 h6' => ?_)
      obtain ⟨w1, w2⟩ := h6'
      refine OK_some ⟨⟨?_, ?_, w1⟩, fun k j hk => ?_⟩
      · exact RN_of hR' (w2 _ _ (by omega) (by omega)) (w2 _ _ (by omega) (by omega)) (fun k j _ _ _ _ _ => w2 k j (by omega) (by omega))
      · rw [w2 _ _ (by omega) (by omega)]; exact u2
      · rw [w2 _ _ (by omega) (by omega), u3 _ _ (by omega)]
        exact g2 k j hk
end CL
