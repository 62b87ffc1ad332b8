/-! the reference: what it keeps between statements; settings -/
section TX17
variable {T : Nat → Int} {L p cnt : Nat} {σ τ υ : xS} {n b k1 z1 : Nat} {s : RS0} {f : Int × Nat} {S : PSt}
def gB (c0 c1 c2 c3 : Bool) : Int := (if c0 then 1 else 0) + (if c1 then 2 else 0) + (if c2 then 4 else 0) + (if c3 then 8 else 0)
def gK (c0 c1 c2 c3 : Bool) (k : Nat) : Bool := if k = 0 then c0 else if k = 1 then c1 else if k = 2 then c2 else c3
theorem gB_tab : ∀ c0 c1 c2 c3 : Bool, ∀ k : Fin 4, m_X13_has (gB c0 c1 c2 c3) (k.val : Int) = (if gK c0 c1 c2 c3 k.val then 1 else 0) ∧ zor (gB c0 c1 c2 c3) (zshl 1 (k.val : Int)) = gB (c0 || decide (k.val = 0)) (c1 || decide (k.val = 1)) (c2 || decide (k.val = 2)) (c3 || decide (k.val = 3)) := by decide +kernel
/-- the settings given, as bits -/
def gvF (g : Nat → Int) : Int := gB (decide (g 0 = 1)) (decide (g 1 = 1)) (decide (g 2 = 1)) (decide (g 3 = 1))
theorem gv_has {g : Nat → Int} {k : Nat} (hk : k < 4) (hg : g k = 0 ∨ g k = 1) : m_X13_has (gvF g) (k : Int) = g k := by
  unfold gvF
  rw [(gB_tab _ _ _ _ ⟨k, hk⟩).1]
  dsimp only
  unfold gK
  have : k = 0 ∨ k = 1 ∨ k = 2 ∨ k = 3 := by omega
  rcases this with rfl | rfl | rfl | rfl <;> rcases hg with e | e <;> simp [e]
theorem gv_put {g : Nat → Int} {k : Nat} (hk : k < 4) : zor (gvF g) (zshl 1 (k : Int)) = gvF (stI g k 1) := by
  unfold gvF
  rw [(gB_tab _ _ _ _ ⟨k, hk⟩).2]
  dsimp only
  have : k = 0 ∨ k = 1 ∨ k = 2 ∨ k = 3 := by omega
  rcases this with rfl | rfl | rfl | rfl <;> simp [stI]
/-- the reference holds a state between statements -/
def rtP (σ : xS) (T : Nat → Int) (L : Nat) (S : PSt) : Prop := rtG σ T L S.1 ∧ (∀ i, i < 289 → σ 186 i = S.2.1 i) ∧ rtNm σ 190 T S.2.2.1 (S.2.1 4).toNat ∧ rtNm σ 191 T S.2.2.2.1 (S.2.1 6).toNat ∧ σ 184 17 = gvF S.2.2.2.2
def rtQ (σ : xS) (T : Nat → Int) (L : Nat) (r : RSt) : Prop := match r with
  | .inl f => rtX σ T L f
  | .inr S => rtP σ T L S
/-- what a statement may change -/
def rtF (σ τ : xS) : Prop := ∀ k j, ¬ (k = 186 ∨ k = 190 ∨ k = 191) → ¬ (k = 184 ∧ (j = 11 ∨ j = 12 ∨ j = 13 ∨ j = 14 ∨ j = 17)) → τ k j = σ k j
theorem rtF_t (h : rtf σ τ) : rtF σ τ := fun k j _ c2 => h k j (by omega)
theorem rtF_trans (h1 : rtF σ τ) (h2 : rtF τ υ) : rtF σ υ := fun k j c1 c2 => by rw [h2 k j c1 c2]; exact h1 k j c1 c2
theorem rtP_move {q : Nat} (h : rtP σ T L S) (hG : rtG τ T L q) (hf : rtf σ τ) : rtP τ T L (stP S q) :=
  ⟨hG, fun i hi => by rw [hf _ _ (by omega)]; exact h.2.1 i hi, rtNm_f h.2.2.1 (fun j _ => hf _ _ (by omega)), rtNm_f h.2.2.2.1 (fun j _ => hf _ _ (by omega)), by rw [hf _ _ (by omega)]; exact h.2.2.2.2⟩
theorem r_single {k : Nat} {lo hi : Int} (hk : k < 4) (hb : (k = 0 ∧ lo = 10 ∧ hi = 40) ∨ (k = 1 ∧ lo = 0 ∧ hi = 120) ∨ ((k = 2 ∨ k = 3) ∧ lo = 1 ∧ hi = 4)) (h : rtP σ T L S) (hV : PSV T L S) (hkd : kdF T L S.1 = 1) (hn : 4000000 ≤ n) : OK (m_X13_single n (k : Int) σ) (fun τ => rtQ τ T L (sSet T L S k lo hi) ∧ rtF σ τ) := by
  obtain ⟨hG, hD, hN1, hN2, hg⟩ := h
  have hgv := hV.2.2.2.2.1 k hk
  have hv4 := hV.1.2.2.2.2.1
  have hv6 := hV.1.2.2.2.2.2.2.1
  have hG' := hG
  obtain ⟨g1, g2, g3, g4, g5⟩ := hG'
  unfold m_X13_single
  rw [xj_eq, hg, gv_has hk hgv, g2]
  unfold sSet rSet
  rcases hgv with e | e
  · rw [e, if_pos rfl, if_pos rfl]
    dsimp only
    rw [r_fineG hG, if_neg (by omega), xlet_eq, hg, gv_put hk]
    have hG6 : rtG (xput σ 184 17 (gvF (stI S.2.2.2.2 k 1))) T L S.1 := rtS_same (s := .inr S.1) hG (fun i j hij => xput_ne (by omega))
    refine OK_bind (r_skipsWord hG6 hkd hn) (fun s7 h7 => ?_)
    obtain ⟨i1, i2⟩ := h7
    have f7 : ∀ i j, ¬ (i = 184 ∧ (j = 11 ∨ j = 17)) → s7 i j = σ i j := fun i j hij => by rw [i2 _ _ (by omega), xput_ne (by omega)]
    have f17 : s7 184 17 = gvF (stI S.2.2.2.2 k 1) := by rw [i2 _ _ (by omega)]; exact xput_eq
    have tail : OK (xbS (m_X13_number n lo hi s7) fun v s => xck (zI (k : Int)) 289 <| xlet (xput s 186 (zI (k : Int)).toNat v) fun s13 => some s13) (fun τ => rtQ τ T L (fin1 (rNum T L lo hi (ntF T L S.1)) (fun v q => (q, stI S.2.1 k v, S.2.2.1, S.2.2.2.1, stI S.2.2.2.2 k 1))) ∧ rtF σ τ) := by
      refine OK_xbS (r_number (s := .inr (ntF T L S.1)) i1 (by omega) hn) (fun v s8 h8 => ?_)
      obtain ⟨a1, a2, a3⟩ := h8
      dsimp only at a1 a2 a3
      rw [zI_of (n := (k : Int)) (by omega) (by omega), xck_of (by omega) (by omega), xlet_eq, tn_cast]
      have hf : ∀ i j, ¬ (i = 186 ∧ j = k) → ¬ (i = 184 ∧ (j = 11 ∨ j = 12 ∨ j = 13 ∨ j = 14 ∨ j = 17)) → (xput s8 186 k v) i j = σ i j := fun i j c1 c2 => by
        rw [xput_ne c1, a3 _ _ (by omega), f7 _ _ (by omega)]
      refine OK_some ⟨?_, fun i j c1 c2 => hf i j (by omega) c2⟩
      have a1' : rtS s8 T L (nxS (rNum T L lo hi (ntF T L S.1))) := a1
      have a2' : ∀ q, rNum T L lo hi (ntF T L S.1) = .inr q → v = q.1 := a2
      have a1s : rtS (xput s8 186 k v) T L (nxS (rNum T L lo hi (ntF T L S.1))) := rtS_same a1' (fun i j hij => xput_ne (by omega))
      cases hr : rNum T L lo hi (ntF T L S.1) with
      | inl f =>
        rw [hr] at a1s
        exact a1s
      | inr q =>
        rw [hr] at a1s
        have hv := a2' q hr
        refine ⟨a1s, fun i hi' => ?_, ?_, ?_, ?_⟩
        · show xput s8 186 k v 186 i = stI S.2.1 k q.1 i
          by_cases c : i = k
          · subst c
            rw [xput_eq, hv]
            exact stI_eq.symm
          · rw [stI_ne c, hf _ _ (by omega) (by omega)]
            exact hD i hi'
        · show rtNm _ 190 T S.2.2.1 (stI S.2.1 k q.1 4).toNat
          rw [stI_ne (by omega)]
          exact rtNm_f hN1 (fun j _ => hf _ _ (by omega) (by omega))
        · show rtNm _ 191 T S.2.2.2.1 (stI S.2.1 k q.1 6).toNat
          rw [stI_ne (by omega)]
          exact rtNm_f hN2 (fun j _ => hf _ _ (by omega) (by omega))
        · show xput s8 186 k v 184 17 = gvF (stI S.2.2.2.2 k 1)
          rw [xput_ne (by omega), a3 _ _ (by omega)]
          exact f17
    rw [xj_eq]
    have hz : zI (k : Int) = (k : Int) := zI_of (by omega) (by omega)
    rcases hb with ⟨b1, b2, b3⟩ | ⟨b1, b2, b3⟩ | ⟨b1, b2, b3⟩
    · subst b2 b3
      rw [if_pos (show zI (k : Int) = 0 by omega)]
      exact tail
    · subst b2 b3
      rw [if_neg (show ¬ zI (k : Int) = 0 by omega), if_pos (show zI (k : Int) = 1 by omega)]
      exact tail
    · subst b2 b3
      rw [if_neg (show ¬ zI (k : Int) = 0 by omega), if_neg (show ¬ zI (k : Int) = 1 by omega)]
      exact tail
  · rw [e, if_neg (by omega), if_neg (by omega)]
    refine OK_bind (r_faultyG g1 ⟨_, g2, g3⟩ g4 (c := 3) (q := S.1) (by omega)) (fun u hu => ?_)
    dsimp only
    rw [r_fineX hu.1, if_pos rfl]
    exact OK_some ⟨hu.1, rtF_t hu.2.1⟩
end TX17
