/-! the class alone: a night moves along with its start -/
section CLS5
variable {σ τ : xS} {n : Nat} {β γ : Nat → Int} {f e : Int}
theorem l_isMoved (h : CB σ β) (hn : 4000000 ≤ n) (hf : 0 ≤ f ∧ f ≤ 1339) (h60 : allF β ≤ 60) (h9 : β 9 = 4) :
    OK (m_L_isMoved n f σ) (fun x => x.1 = 1 ∧ CB x.2 β ∧ ∀ a j, ¬ (118 ≤ a ∧ a < 139) → ¬ (a = 0 ∧ (j = 8 ∨ j = 9)) → x.2 a j = σ a j) := by
  have hV := h.2.1
  have hP := prm_V hV h60
  have hF := FN_Mf hV h60
  have h6 : (bl β).length ≤ 60 := hP.2.2.1
  have hNB := Mf_NB hV h60
  have heb := endF_bd hP hNB (bl β).length (Nat.le_refl _)
  have hev : edF β = endF (prm β) ((Mf (prm β)).1) (bl β).length := rfl
  have hrb := rdyF_bd (o := 0) hV h60 (by omega)
  have hsp : 0 ≤ spF β ((Mf (prm β)).1) ∧ spF β ((Mf (prm β)).1) ≤ 60 := by
    have := sumTo_bd (n := (bl β).length) (f := fun b => if (Mf (prm β)).1 3 b = -1 then (0 : Int) else 1) (lo := 0) (hi := 1) (fun b hb => by split <;> omega)
    unfold spF
    omega
  unfold m_L_isMoved
  refine OK_xbS (c_simulate h hn (by omega) h60) (fun v s g => ?_)
  obtain ⟨g1, g2, g3, g4⟩ := g
  dsimp only at g1 g2 g3 g4
  have hr0 : m_X12_readyMinute 0 s = some (shF f (rdyF β ((Mf (prm β)).1) 0)) := a_ready (o := 0) g2 g3 (by omega)
  rw [a_spoiled g2 g3 hn, bind_some', hr0, bind_some', a_count g2 g3 hn, bind_some', xj_eq]
  have hJ : ∀ q9 : Int, (0 < (bl β).length → q9 = bgF (prm β) f ((Mf (prm β)).1) 2 ((bl β).length - 1)) → OK (xbS (m_X12_simulate n (f + 100) s) fun v11 s10 => xlet (v11 - v) fun v12 => xj (fun (q16 : Unit) => some ((0 : Int), s10)) fun J14 => if (zI v12) = 100 then (m_X12_spoiledCount n s10).bind fun v18 => if (zI v18) = (zI (spF β ((Mf (prm β)).1))) then (m_X12_readyMinute 0 s10).bind fun v20 => xlet (if 0 ≤ (zI (shF f (rdyF β ((Mf (prm β)).1) 0))) then (shF f (rdyF β ((Mf (prm β)).1) 0)) + 100 else (-1)) fun v21 => if (zI v20) = (zI v21) then (m_X12_batchCount n s10).bind fun v23 => xj (fun (q28 : Int) => xbo q28 (some (q28, s10))) fun J26 => xj (fun (q31 : Unit) => J26 1) fun J29 => if (zI v23) = 0 then J29 () else (m_X12_batchCount n s10).bind fun v33 => (m_X12_stageMinute (v33 - 1) 2 s10).bind fun v34 => if (zI v34) = (zI (q9 + 100)) then J29 () else J26 0 else J14 () else J14 () else J14 ()) (fun x => x.1 = 1 ∧ CB x.2 β ∧ ∀ a j, ¬ (118 ≤ a ∧ a < 139) → ¬ (a = 0 ∧ (j = 8 ∨ j = 9)) → x.2 a j = σ a j) := by
    intro q9 hq9
    refine OK_xbS (c_simulate g2 hn (by omega) h60) (fun w t k => ?_)
    obtain ⟨k1, k2, k3, k4⟩ := k
    dsimp only at k1 k2 k3 k4
    have ht0 : m_X12_readyMinute 0 t = some (shF (f + 100) (rdyF β ((Mf (prm β)).1) 0)) := a_ready (o := 0) k2 k3 (by omega)
    have hfin : OK (some ((1 : Int), t)) (fun x => x.1 = 1 ∧ CB x.2 β ∧ ∀ a j, ¬ (118 ≤ a ∧ a < 139) → ¬ (a = 0 ∧ (j = 8 ∨ j = 9)) → x.2 a j = σ a j) := OK_some ⟨rfl, k2, fun a j c1 c2 => (k4 a j c1 c2).trans (g4 a j c1 c2)⟩
    rw [xlet_eq, xj_eq, show w - v = 100 by omega, zI_of (n := (100 : Int)) (by omega) (by omega), if_pos rfl, a_spoiled k2 k3 hn, bind_some', if_pos rfl, ht0, bind_some', xlet_eq]
    have e1 : zI (shF (f + 100) (rdyF β ((Mf (prm β)).1) 0)) = zI (if 0 ≤ (zI (shF f (rdyF β ((Mf (prm β)).1) 0))) then (shF f (rdyF β ((Mf (prm β)).1) 0)) + 100 else (-1)) := by
      unfold shF
      by_cases c : rdyF β ((Mf (prm β)).1) 0 = -1
      · rw [if_pos c, if_pos c, zI_of (n := (-1 : Int)) (by omega) (by omega), if_neg (by omega), zI_of (n := (-1 : Int)) (by omega) (by omega)]
      · rw [if_neg c, if_neg c, zI_of (n := rdyF β ((Mf (prm β)).1) 0 + f) (by omega) (by omega), if_pos (by omega), show rdyF β ((Mf (prm β)).1) 0 + (f + 100) = rdyF β ((Mf (prm β)).1) 0 + f + 100 by omega]
    rw [if_pos e1, a_count k2 k3 hn, bind_some', xj_eq, xj_eq, zI_of (n := ((bl β).length : Int)) (by omega) (by omega)]
    dsimp only
    rw [xbo_1]
    by_cases c : (bl β).length = 0
    · rw [if_pos (by omega)]
      exact hfin
    · obtain ⟨u, hu⟩ : ∃ u, (bl β).length = u + 1 := ⟨(bl β).length - 1, by omega⟩
      have hul : u < (bl β).length := by omega
      have su : m_X12_stageMinute (((bl β).length : Int) - 1) 2 t = some (bgF (prm β) (f + 100) ((Mf (prm β)).1) 2 u) := by
        rw [show ((bl β).length : Int) - 1 = (u : Int) by omega]
        exact a_stage (r := 2) k2 k3 hul (by omega)
      have hFu := hF u hul
      have b2 : bgF (prm β) f ((Mf (prm β)).1) 2 u = (Mf (prm β)).1 1 u + f := by show (if (Mf (prm β)).1 1 u = -1 then -1 else (Mf (prm β)).1 1 u + f) = _; rw [if_neg (by omega)]
      have b2' : bgF (prm β) (f + 100) ((Mf (prm β)).1) 2 u = (Mf (prm β)).1 1 u + (f + 100) := by show (if (Mf (prm β)).1 1 u = -1 then -1 else (Mf (prm β)).1 1 u + (f + 100)) = _; rw [if_neg (by omega)]
      have hq := hq9 (by omega)
      rw [show (bl β).length - 1 = u by omega] at hq
      rw [if_neg (by omega), bind_some', su, bind_some', b2', hq, b2, show (Mf (prm β)).1 1 u + (f + 100) = (Mf (prm β)).1 1 u + f + 100 by omega, if_pos rfl]
      exact hfin
  rw [zI_of (n := ((bl β).length : Int)) (by omega) (by omega)]
  by_cases c : (bl β).length = 0
  · rw [if_pos (by omega)]
    exact hJ 0 (fun hh => absurd hh (by omega))
  · obtain ⟨u, hu⟩ : ∃ u, (bl β).length = u + 1 := ⟨(bl β).length - 1, by omega⟩
    have hul : u < (bl β).length := by omega
    have su : m_X12_stageMinute (((bl β).length : Int) - 1) 2 s = some (bgF (prm β) f ((Mf (prm β)).1) 2 u) := by
      rw [show ((bl β).length : Int) - 1 = (u : Int) by omega]
      exact a_stage (r := 2) g2 g3 hul (by omega)
    rw [if_neg (by omega), bind_some', su, bind_some']
    exact hJ _ (fun _ => by rw [show (bl β).length - 1 = u by omega])
end CLS5
