/-! the class alone: the law's look at a night -/
section CLS4
variable {σ τ : xS} {n : Nat} {β γ : Nat → Int} {f e : Int}
theorem bg_ge (hP : PV (prm β)) (hF : FN (prm β) ((Mf (prm β)).1)) (hf : 0 ≤ f) {b : Nat} (hb : b < (bl β).length) : f ≤ bgF (prm β) f ((Mf (prm β)).1) 0 b ∧ bgF (prm β) f ((Mf (prm β)).1) 0 b ≤ bgF (prm β) f ((Mf (prm β)).1) 1 b ∧ bgF (prm β) f ((Mf (prm β)).1) 1 b ≤ bgF (prm β) f ((Mf (prm β)).1) 2 b ∧ bgF (prm β) f ((Mf (prm β)).1) 2 b ≤ bgF (prm β) f ((Mf (prm β)).1) 3 b ∧ bgF (prm β) f ((Mf (prm β)).1) 3 b ≤ 260000 + f ∧
    (((Mf (prm β)).1 2 b = -1 ∧ (Mf (prm β)).1 4 b = -1 ∧ (Mf (prm β)).1 3 b ≠ -1 ∧ bgF (prm β) f ((Mf (prm β)).1) 4 b = -1 ∧ bgF (prm β) f ((Mf (prm β)).1) 5 b = -1) ∨ ((Mf (prm β)).1 3 b = -1 ∧ 0 ≤ (Mf (prm β)).1 4 b ∧ (Mf (prm β)).1 4 b < ((β 5).toNat : Int) ∧ bgF (prm β) f ((Mf (prm β)).1) 3 b ≤ bgF (prm β) f ((Mf (prm β)).1) 4 b ∧ bgF (prm β) f ((Mf (prm β)).1) 5 b = bgF (prm β) f ((Mf (prm β)).1) 4 b + pT (prm β) b 5 ∧ bgF (prm β) f ((Mf (prm β)).1) 5 b = (Mf (prm β)).1 2 b + pT (prm β) b 5 + f ∧ bgF (prm β) f ((Mf (prm β)).1) 5 b ≤ 126000 + f)) ∧ (1 ≤ pT (prm β) b 5 ∧ pT (prm β) b 5 ≤ 120) := by
  have hT := hP.1 b hb
  obtain ⟨f0, f1, f2⟩ := hF b hb
  have er : rE (prm β) ((Mf (prm β)).1) b = (Mf (prm β)).1 0 b + pT (prm β) b 0 + pT (prm β) b 1 := rfl
  have ep : pE (prm β) ((Mf (prm β)).1) b = (Mf (prm β)).1 1 b + pT (prm β) b 2 + pT (prm β) b 3 := rfl
  have b0 : bgF (prm β) f ((Mf (prm β)).1) 0 b = (Mf (prm β)).1 0 b + f := by show (if (Mf (prm β)).1 0 b = -1 then -1 else (Mf (prm β)).1 0 b + f) = _; rw [if_neg (by omega)]
  have b1 : bgF (prm β) f ((Mf (prm β)).1) 1 b = (Mf (prm β)).1 0 b + pT (prm β) b 0 + f := by show (if (Mf (prm β)).1 0 b = -1 then -1 else _) = _; rw [if_neg (by omega)]
  have b2 : bgF (prm β) f ((Mf (prm β)).1) 2 b = (Mf (prm β)).1 1 b + f := by show (if (Mf (prm β)).1 1 b = -1 then -1 else (Mf (prm β)).1 1 b + f) = _; rw [if_neg (by omega)]
  have b3 : bgF (prm β) f ((Mf (prm β)).1) 3 b = (Mf (prm β)).1 1 b + pT (prm β) b 2 + f := by show (if (Mf (prm β)).1 1 b = -1 then -1 else _) = _; rw [if_neg (by omega)]
  have hpv : pv (prm β) = (β 5).toNat := rfl
  rw [b0, b1, b2, b3]
  refine ⟨by omega, by omega, by omega, by omega, by omega, ?_, by omega⟩
  rcases f2 with z | z
  · refine Or.inl ⟨z.1, z.2.1, by omega, ?_, ?_⟩
    · show (if (Mf (prm β)).1 2 b = -1 then -1 else _) = _
      rw [if_pos z.1]
    · show (if (Mf (prm β)).1 2 b = -1 then -1 else _) = _
      rw [if_pos z.1]
  · have b4 : bgF (prm β) f ((Mf (prm β)).1) 4 b = (Mf (prm β)).1 2 b + f := by show (if (Mf (prm β)).1 2 b = -1 then -1 else (Mf (prm β)).1 2 b + f) = _; rw [if_neg (by omega)]
    have b5 : bgF (prm β) f ((Mf (prm β)).1) 5 b = (Mf (prm β)).1 2 b + pT (prm β) b 5 + f := by show (if (Mf (prm β)).1 2 b = -1 then -1 else _) = _; rw [if_neg (by omega)]
    rw [b4, b5]
    exact Or.inr ⟨z.1, z.2.2.2.2.1, by rw [← hpv]; exact z.2.2.2.2.2, by omega, by omega, by omega, by omega⟩
/-- the stage that the law's inner look holds -/
def bfS (β : Nat → Int) (f : Int) (b : Nat) : Nat → Int
  | 0 => f
  | k + 1 => bgF (prm β) f ((Mf (prm β)).1) k b
theorem end_ge {P : NP} {N : Nat → Nat → Int} {b : Nat} : ∀ k, b < k → (if N 3 b ≠ -1 then N 3 b else N 2 b + pT P b 5) ≤ endF P N k
  | 0, h => absurd h (Nat.not_lt_zero _)
  | k + 1, h => by
    rw [endF]
    by_cases c : b = k
    · rw [c]
      omega
    · have := end_ge (P := P) (N := N) k (show b < k by omega)
      omega
theorem mix_le (hV : V β) (h60 : allF β ≤ 60) {b : Nat} (hb : b + 1 < (bl β).length) : (Mf (prm β)).1 0 b ≤ (Mf (prm β)).1 0 (b + 1) := by
  have I := Mf_I hV h60
  have hd := (done_facts I (Mf_done (prm_V hV h60))).2.2.1
  obtain ⟨-, -, -, -, -, -, -, -, -, -, -, -, h, -⟩ := I
  refine h b (b + 1) (by omega) ?_
  rw [hd]
  exact hb
/-- the night's facts that the law asks -/
theorem l_isNight (h : CB σ β) (hn : 4000000 ≤ n) (hf : 0 ≤ f ∧ f ≤ 1339) (h60 : allF β ≤ 60) (h5 : β 5 = 1) (h4 : β 4 = 2) (h9 : β 9 = 4) (h1 : β 1 = 30) (hpos : 0 < (bl β).length) :
    OK (m_L_isNight n f σ) (fun x => x.1 = 1 ∧ CB x.2 β ∧ CNt x.2 β f ∧ ∀ a j, ¬ (118 ≤ a ∧ a < 139) → ¬ (a = 0 ∧ (j = 8 ∨ j = 9)) → x.2 a j = σ a j) := by
  have hV := h.2.1
  have hP := prm_V hV h60
  have hF := FN_Mf hV h60
  have h6 : (bl β).length ≤ 60 := hP.2.2.1
  have hNB := Mf_NB hV h60
  have heb := endF_bd hP hNB (bl β).length (Nat.le_refl _)
  unfold m_L_isNight
  refine OK_xbS (c_simulate h hn (by omega) h60) (fun v s g => ?_)
  obtain ⟨g1, g2, g3, g4⟩ := g
  dsimp only at g1 g2 g3 g4
  have hev : edF β = endF (prm β) ((Mf (prm β)).1) (bl β).length := rfl
  rw [hev] at g1
  have hcnt := a_count g2 g3 hn
  have hsp := a_spoiled g2 g3 hn
  have hbk := a_baking g2 g3 hn (by omega)
  have hvz : zI v = v := by rw [g1]; exact zI_of (by omega) (by omega)
  have hspb : ∀ i, i ≤ (bl β).length → 0 ≤ sumTo i (fun b => if (Mf (prm β)).1 3 b = -1 then (0 : Int) else 1) ∧ sumTo i (fun b => if (Mf (prm β)).1 3 b = -1 then (0 : Int) else 1) ≤ 60 := fun i hi => by
    have := sumTo_bd (n := i) (f := fun b => if (Mf (prm β)).1 3 b = -1 then (0 : Int) else 1) (lo := 0) (hi := 1) (fun b hb => by split <;> omega)
    omega
  have hbmb : ∀ i, i ≤ (bl β).length → 0 ≤ sumTo i (fun b => if (Mf (prm β)).1 4 b = ((0 : Nat) : Int) then pT (prm β) b 5 else 0) ∧ sumTo i (fun b => if (Mf (prm β)).1 4 b = ((0 : Nat) : Int) then pT (prm β) b 5 else 0) ≤ 7200 := fun i hi => by
    have := sumTo_bd (n := i) (f := fun b => if (Mf (prm β)).1 4 b = ((0 : Nat) : Int) then pT (prm β) b 5 else 0) (lo := 0) (hi := 120) (fun b hb => by
      have hT := hP.1 b (show b < (bl β).length by omega)
      split <;> omega)
    omega
  refine OK_eq (r := (1, s)) (loop_eq (bl β).length (fun i => (sumTo i (fun b => if (Mf (prm β)).1 3 b = -1 then (0 : Int) else 1), sumTo i (fun b => if (Mf (prm β)).1 4 b = ((0 : Nat) : Int) then pT (prm β) b 5 else 0), (i : Int))) rfl ?_ ?_ (by omega)) ⟨rfl, g2, g3, g4⟩
  · intro i hi rec
    have hbd := hspb i (by omega)
    have hbd2 := hbmb i (by omega)
    obtain ⟨t0, t1, t2, t3, t4, t5, t6⟩ := bg_ge (f := f) hP hF hf.1 hi
    have st : ∀ r : Nat, r < 6 → m_X12_stageMinute (i : Int) (r : Int) s = some (bgF (prm β) f ((Mf (prm β)).1) r i) := fun r hr => a_stage g2 g3 hi hr
    have st0 : m_X12_stageMinute (i : Int) 0 s = some (bgF (prm β) f ((Mf (prm β)).1) 0 i) := st 0 (by omega)
    have st4 : m_X12_stageMinute (i : Int) 4 s = some (bgF (prm β) f ((Mf (prm β)).1) 4 i) := st 4 (by omega)
    have st5 : m_X12_stageMinute (i : Int) 5 s = some (bgF (prm β) f ((Mf (prm β)).1) 5 i) := st 5 (by omega)
    have ov : m_X12_ovenOf (i : Int) s = some ((Mf (prm β)).1 4 i) := a_oven g2 g3 hi
    have hend := end_ge (P := prm β) (N := (Mf (prm β)).1) (b := i) _ hi
    dsimp only
    rw [hcnt, bind_some', zI_of (n := ((bl β).length : Int)) (by omega) (by omega), zI_of (n := (i : Int)) (by omega) (by omega), if_neg (by omega), sumTo, sumTo]
    refine loop_eq 4 (fun k => (bfS β f i k, (k : Int))) rfl ?_ ?_ (by omega)
    · intro k hk rec2
      have hb1 : bfS β f i k ≤ bgF (prm β) f ((Mf (prm β)).1) k i := by
        have k4 : k = 0 ∨ k = 1 ∨ k = 2 ∨ k = 3 := by omega
        rcases k4 with rfl | rfl | rfl | rfl
        · exact t0
        · exact t1
        · exact t2
        · exact t3
      have hb2 : f ≤ bfS β f i k ∧ bgF (prm β) f ((Mf (prm β)).1) k i ≤ 260000 + f := by
        have k4 : k = 0 ∨ k = 1 ∨ k = 2 ∨ k = 3 := by omega
        rcases k4 with rfl | rfl | rfl | rfl
        · exact ⟨Int.le_refl _, by omega⟩
        · exact ⟨t0, by omega⟩
        · exact ⟨by show f ≤ bgF (prm β) f ((Mf (prm β)).1) 1 i; omega, by omega⟩
        · exact ⟨by show f ≤ bgF (prm β) f ((Mf (prm β)).1) 2 i; omega, by omega⟩
      dsimp only
      rw [zI_of (n := (k : Int)) (by omega) (by omega), if_neg (by omega), st k (by omega), bind_some', zI_of (n := bfS β f i k) (by omega) (by omega), zI_of (n := bgF (prm β) f ((Mf (prm β)).1) k i) (by omega) (by omega), if_pos hb1, bind_some', xlet_eq]
      rfl
    · intro rec2
      have e3 : bfS β f i 4 = bgF (prm β) f ((Mf (prm β)).1) 3 i := rfl
      dsimp only
      rw [zI_of (n := ((4 : Nat) : Int)) (by omega) (by omega), if_pos (by omega), ov, bind_some', xlet_eq, st5, bind_some', xlet_eq, xj_eq, e3, zI_of (n := bgF (prm β) f ((Mf (prm β)).1) 3 i) (by omega) (by omega)]
      have hJ : ∀ A B : Int, (if (i : Int) ≤ 0 then xlet ((i : Int) + 1) fun v89 => rec (A, B, v89) else (m_X12_stageMinute (i : Int) 0 s).bind fun v91 => (m_X12_stageMinute ((i : Int) - 1) 0 s).bind fun v92 => if (zI v92) ≤ (zI v91) then xlet ((i : Int) + 1) fun v89 => rec (A, B, v89) else some (0, s)) = rec (A, B, ((i + 1 : Nat) : Int)) := fun A B => by
        by_cases ci : i = 0
        · rw [if_pos (by omega), xlet_eq]
          rfl
        · obtain ⟨u, rfl⟩ : ∃ u, i = u + 1 := ⟨i - 1, by omega⟩
          have hu : u < (bl β).length := by omega
          have su : m_X12_stageMinute (((u + 1 : Nat) : Int) - 1) 0 s = some (bgF (prm β) f ((Mf (prm β)).1) 0 u) := by
            rw [show ((u + 1 : Nat) : Int) - 1 = (u : Int) by omega]
            exact a_stage (r := 0) g2 g3 hu (by omega)
          obtain ⟨w0, w1, w2, w3, w4, -⟩ := bg_ge (f := f) hP hF hf.1 hu
          have hm := mix_le hV h60 hi
          have fu := hF u hu
          have fi := hF (u + 1) hi
          have b0 : bgF (prm β) f ((Mf (prm β)).1) 0 (u + 1) = (Mf (prm β)).1 0 (u + 1) + f := by show (if (Mf (prm β)).1 0 (u + 1) = -1 then -1 else (Mf (prm β)).1 0 (u + 1) + f) = _; rw [if_neg (by omega)]
          have b0' : bgF (prm β) f ((Mf (prm β)).1) 0 u = (Mf (prm β)).1 0 u + f := by show (if (Mf (prm β)).1 0 u = -1 then -1 else (Mf (prm β)).1 0 u + f) = _; rw [if_neg (by omega)]
          rw [if_neg (by omega), st0, bind_some', su, bind_some', zI_of (n := bgF (prm β) f ((Mf (prm β)).1) 0 u) (by omega) (by omega), zI_of (n := bgF (prm β) f ((Mf (prm β)).1) 0 (u + 1)) (by omega) (by omega), if_pos (by omega), xlet_eq]
          rfl
      rcases t5 with ⟨z1, z2, z3, z4, z5⟩ | ⟨z3, z2, z2', z4, z5, z6, z7⟩
      · rw [if_pos z3] at hend
        rw [z5, z2, zI_of (n := (-1 : Int)) (by omega) (by omega), if_neg (show ¬ ((-1 : Int) = 0) by omega), if_pos (show (-1 : Int) < 0 by omega), zI_of (n := (0 : Int)) (by omega) (by omega), if_pos rfl, st4, bind_some', z4, zI_of (n := (-1 : Int)) (by omega) (by omega), if_pos (show (-1 : Int) < bgF (prm β) f ((Mf (prm β)).1) 3 i by omega), xlet_eq, zI_of (n := (0 : Int)) (by omega) (by omega), if_pos rfl, hvz, if_pos (show (-1 : Int) ≤ v by omega), if_pos rfl, xlet_eq, xlet_eq, xj_eq, if_pos rfl]
        dsimp only
        rw [xlet_eq, xj_eq]
        dsimp only
        rw [hJ]
        rw [if_neg z3, if_neg (show ¬ ((-1 : Int) = ((0 : Nat) : Int)) by omega)]
      · rw [if_neg (show ¬ (Mf (prm β)).1 3 i ≠ -1 by omega)] at hend
        have z20 : (Mf (prm β)).1 4 i = 0 := by omega
        rw [z20, zI_of (n := (0 : Int)) (by omega) (by omega), if_pos rfl, zI_of (n := bgF (prm β) f ((Mf (prm β)).1) 5 i) (by omega) (by omega), if_neg (show ¬ bgF (prm β) f ((Mf (prm β)).1) 5 i < 0 by omega), zI_of (n := (1 : Int)) (by omega) (by omega), if_pos rfl, st4, bind_some', zI_of (n := bgF (prm β) f ((Mf (prm β)).1) 4 i) (by omega) (by omega), if_neg (show ¬ bgF (prm β) f ((Mf (prm β)).1) 4 i < bgF (prm β) f ((Mf (prm β)).1) 3 i by omega), xlet_eq, zI_of (n := (1 : Int)) (by omega) (by omega), if_pos rfl, hvz, if_pos (show bgF (prm β) f ((Mf (prm β)).1) 5 i ≤ v by omega), if_neg (show ¬ ((1 : Int) = 0) by omega), xlet_eq, xlet_eq, xj_eq, if_neg (show ¬ ((1 : Int) = 0) by omega), bind_some']
        dsimp only
        rw [xlet_eq, xj_eq]
        dsimp only
        rw [hJ]
        rw [if_pos z3, if_pos (show (0 : Int) = ((0 : Nat) : Int) from rfl), show bgF (prm β) f ((Mf (prm β)).1) 5 i - bgF (prm β) f ((Mf (prm β)).1) 4 i = pT (prm β) i 5 by omega]
  · intro rec
    have hw := a_wait0 g2 g3 hn
    have hwb : 0 ≤ wmF (prm β) ((Mf (prm β)).1) ∧ wmF (prm β) ((Mf (prm β)).1) ≤ 7500000 := by
      have hpn : pn (prm β) = (bl β).length := rfl
      have := sumTo_bd (n := pn (prm β)) (f := fun b => if (Mf (prm β)).1 0 b ≠ -1 then (Mf (prm β)).1 0 b else 0) (lo := 0) (hi := 125000) (fun b hb => by
        have := hF b hb
        split <;> omega)
      unfold wmF
      omega
    have hs0 := hspb (bl β).length (Nat.le_refl _)
    have hb0 := hbmb (bl β).length (Nat.le_refl _)
    dsimp only
    rw [hcnt, bind_some', zI_of (n := ((bl β).length : Int)) (by omega) (by omega), if_pos (Int.le_refl _), hsp, bind_some', xj_eq]
    have hspd : spF β ((Mf (prm β)).1) = sumTo (bl β).length (fun b => if (Mf (prm β)).1 3 b = -1 then (0 : Int) else 1) := rfl
    have hbmd : bmF β ((Mf (prm β)).1) 0 = sumTo (bl β).length (fun b => if (Mf (prm β)).1 4 b = ((0 : Nat) : Int) then pT (prm β) b 5 else 0) := rfl
    rw [← hspd, ← hbmd] at *
    rw [if_pos rfl, hbk, bind_some', if_pos rfl, hw, bind_some', zI_of (n := wmF (prm β) ((Mf (prm β)).1)) (by omega) (by omega), if_neg (by omega), a_wait3 g3, bind_some', zI_of (n := (-1 : Int)) (by omega) (by omega), if_pos rfl, a_chg1 g2 g3 h5, bind_some', zI_of (n := (-1 : Int)) (by omega) (by omega), if_pos rfl]
    refine loop_eq 4 (fun k => (k : Int)) rfl ?_ ?_ (by omega)
    · intro k hk rec2
      have hko : (k : Int) < β 9 := by omega
      have hr := a_ready g2 g3 hko
      have hrb := rdyF_bd hV h60 hko
      have hle : shF f (rdyF β ((Mf (prm β)).1) k) ≤ v + 30 ∧ (-1 ≤ shF f (rdyF β ((Mf (prm β)).1) k)) ∧ (0 ≤ shF f (rdyF β ((Mf (prm β)).1) k) → f ≤ shF f (rdyF β ((Mf (prm β)).1) k)) := by
        unfold shF
        by_cases c : rdyF β ((Mf (prm β)).1) k = -1
        · rw [if_pos c]
          refine ⟨by omega, by omega, fun hh => by omega⟩
        · rw [if_neg c]
          refine ⟨?_, by omega, fun _ => by omega⟩
          have c4 : oF β k 4 = 0 := by
            by_cases d : oF β k 4 = 0
            · exact d
            · exact absurd (if_neg d) c
          have e1 : rdyF β ((Mf (prm β)).1) k = if takF β ((Mf (prm β)).1) (oF β k 1).toNat (aheadF β k + oF β k 2 - 1) = -1 then -1 else takF β ((Mf (prm β)).1) (oF β k 1).toNat (aheadF β k + oF β k 2 - 1) + β 1 := if_pos c4
          rw [e1] at c ⊢
          by_cases ct : takF β ((Mf (prm β)).1) (oF β k 1).toNat (aheadF β k + oF β k 2 - 1) = -1
          · rw [if_pos ct] at c
            exact absurd rfl c
          · rw [if_neg ct, h1]
            have e2 : takF β ((Mf (prm β)).1) (oF β k 1).toNat (aheadF β k + oF β k 2 - 1) = if takI β ((Mf (prm β)).1) (oF β k 1).toNat (aheadF β k + oF β k 2 - 1) < (bl β).length then (Mf (prm β)).1 2 (takI β ((Mf (prm β)).1) (oF β k 1).toNat (aheadF β k + oF β k 2 - 1)) + pT (prm β) (takI β ((Mf (prm β)).1) (oF β k 1).toNat (aheadF β k + oF β k 2 - 1)) 5 else -1 := rfl
            rw [e2] at ct ⊢
            by_cases cl : takI β ((Mf (prm β)).1) (oF β k 1).toNat (aheadF β k + oF β k 2 - 1) < (bl β).length
            · rw [if_pos cl]
              have hat := firstTo_at _ _ cl
              have hbk2 := bk_iff.mp ((Bool.and_eq_true _ _).mp hat).1
              have h2' : (Mf (prm β)).1 2 (takI β ((Mf (prm β)).1) (oF β k 1).toNat (aheadF β k + oF β k 2 - 1)) ≠ -1 := hbk2.2
              have hFk := hF _ cl
              have hend := end_ge (P := prm β) (N := (Mf (prm β)).1) (b := takI β ((Mf (prm β)).1) (oF β k 1).toNat (aheadF β k + oF β k 2 - 1)) _ cl
              rw [if_neg (show ¬ (Mf (prm β)).1 3 (takI β ((Mf (prm β)).1) (oF β k 1).toNat (aheadF β k + oF β k 2 - 1)) ≠ -1 by omega)] at hend
              omega
            · rw [if_neg cl] at ct
              exact absurd rfl ct
      rw [zI_of (n := (k : Int)) (by omega) (by omega), if_neg (by omega), hr, bind_some', xj_eq, zI_of (n := v + 30) (by omega) (by omega), zI_of (n := shF f (rdyF β ((Mf (prm β)).1) k)) (by omega) (by omega), if_neg (by omega), bind_some', xj_eq]
      by_cases c0 : shF f (rdyF β ((Mf (prm β)).1) k) < 0
      · rw [zI_of (n := shF f (rdyF β ((Mf (prm β)).1) k)) (by omega) (by omega), if_pos c0]
        dsimp only
        rw [xlet_eq]
        rfl
      · rw [zI_of (n := shF f (rdyF β ((Mf (prm β)).1) k)) (by omega) (by omega), if_neg c0, bind_some', zI_of (n := shF f (rdyF β ((Mf (prm β)).1) k)) (by omega) (by omega), zI_of (n := f) (by omega) (by omega), if_pos (hle.2.2 (by omega))]
        dsimp only
        rw [xlet_eq]
        rfl
    · intro rec2
      have hd0 := a_dough0 g2 g3 hpos
      have hlg : 0 ≤ lG (bl β) 0 ∧ lG (bl β) 0 < β 4 := ⟨by unfold lG; omega, bl_d hV hpos⟩
      have hlo := a_left g2 g3 hn (by omega)
      have hor := a_ordered g2 hn (by omega)
      have hlb := loavesF_bd hV 0
      have hlf : 0 ≤ loF β ((Mf (prm β)).1) 0 ∧ loF β ((Mf (prm β)).1) 0 ≤ 100000 := by
        have vd := hV.2.2.2.2.2.2.2.2.2.2.1 0 (by omega)
        have hmb := mul_bd (cbF_bd (N := (Mf (prm β)).1) hP 0 (k := (bl β).length) (Nat.le_refl _)) (y := dF β 0 7) (by omega)
        have hlb2 := loavesF_bd hV ((0 : Nat) : Int)
        unfold loF
        omega
      rw [zI_of (n := ((4 : Nat) : Int)) (by omega) (by omega), if_pos (by omega), hd0, bind_some', xj_eq, xj_eq, zI_of (n := lG (bl β) 0) (by omega) (by omega), if_neg (by omega), a_value g2 g3 hn, bind_some', zI_of (n := (0 : Int)) (by omega) (by omega), if_pos rfl, xj_eq]
      dsimp only
      rw [xbo_1]
      by_cases cs : 0 < zI (spF β ((Mf (prm β)).1))
      · rw [if_pos cs]
      · rw [if_neg cs, hlo, bind_some', hor, bind_some', zI_of (n := loF β ((Mf (prm β)).1) 0 + loavesF β 0) (by omega) (by omega), if_neg (by omega)]
end CLS4
