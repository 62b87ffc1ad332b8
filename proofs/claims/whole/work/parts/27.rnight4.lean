/-! the reference's minute: heating, baking -/
section RNH
variable {σ : xS} {k n : Nat} {β : Nat → Int} {u t : Int} {N : Nat → Nat → Int} {M : NS}
def htS (P : NP) (N : Nat → Nat → Int) (h t : Int) (σ : xS) : Option Nat → xS
  | none => σ
  | some c => xput (xput (xput σ 202 c h) 203 c (t + need P N h c)) 204 c (σ 204 c + need P N h c)
def htN (P : NP) (N : Nat → Nat → Int) (h t : Int) : Option Nat → (Nat → Nat → Int)
  | none => N
  | some c => setCh P N h t c
theorem changeO_eq {P : NP} {h : Int} : changeO P N h t = if chgI P N h t < pv P then N else htN P N h t (bestO P N h t (pv P)) := by
  unfold changeO
  split
  · rfl
  · cases bestO P N h t (pv P) <;> rfl
theorem r_heats (hk : 185 ≤ k ∧ k ≤ 187) (hβ : σ k = β) (hV : V β) (hP : PV (prm β)) (h19 : σ 184 19 = ((bl β).length : Int)) (h34 : σ 184 34 = t) (hR : ∀ b, b < (bl β).length → RB σ β N t b) (hRO : ∀ o : Nat, (o : Int) < β 5 → RO σ N t o) (hb : ∀ b, b < (bl β).length → bOK (prm β) N (t + 1) b) (hN : NB (prm β) N) (hn : 4000000 ≤ n) {h : Int} (hh : 100 ≤ h ∧ h ≤ 300) : m_X13_heats n k h σ = some (htS (prm β) N h t σ (bestO (prm β) N h t (pv (prm β)))) := by
  have v5 := hV.2.2.2.2.2.1
  have epv : ((pv (prm β) : Nat) : Int) = β 5 := by show (((β 5).toNat : Nat) : Int) = β 5; omega
  have hch : ∀ c : Nat, c < pv (prm β) → N 6 c ≤ t → m_X13_changeMinutes k c h σ = some (need (prm β) N h c) := fun c hc h6 => r_changeMinutes hk hβ hV hP hN (by omega) (hRO c (by omega)) h6 hh
  have hnd : ∀ c : Nat, c < pv (prm β) → 0 ≤ need (prm β) N h c ∧ need (prm β) N h c ≤ 280 := fun c hc => by
    have := need_bd (P := prm β) (N := N) (h := h) (o := c) (hP.2.1 c hc).2.2.1 (hN.2.2 c hc).1 hh
    exact ⟨this.1, this.2.1⟩
  unfold m_X13_heats
  rw [xlet_eq]
  refine loop_eq (pv (prm β)) (fun i => (oI (bestO (prm β) N h t i), (i : Int))) rfl ?_ ?_ (by omega)
  · intro i hi rec
    have hi5 : (i : Int) < β 5 := by omega
    have hu := used_bd hP.2.2.1 N i t
    have hO := hRO i hi5
    dsimp only
    rw [bestO_step]
    simp (disch := omega) only [zI_of (n := (i : Int)), zI_of (n := β 5), hβ, if_neg, xck_of, tn_cast, tn_lit, xlet_eq, xj_eq]
    rw [r_isUsable hk hβ hV hi5 hO (hN.2.2 i hi).1, bind_some', r_onShelves hP h19 hR hb hN hn (by omega)]
    by_cases c1 : pO (prm β) i 3 = 0 ∧ N 6 i ≤ t
    · rw [if_pos c1, zI_of (by omega) (by omega), if_neg (by omega), bind_some', zI_of (by omega) (by omega)]
      by_cases c3 : used (prm β) N i t = 0
      · have hcc : canCh (prm β) N t i = true := canCh_iff.mpr ⟨c1.2, c1.1, c3⟩
        rw [if_pos (by omega), if_pos hcc]
        cases eb : bestO (prm β) N h t i with
        | none =>
          dsimp only
          rw [oI_none, zI_of (by omega) (by omega), if_pos rfl]
          rfl
        | some c =>
          have hc := bestO_some eb
          have hcv : c < pv (prm β) := by omega
          have hc6 := (canCh_iff.mp hc.2).1
          have n1 := hnd i hi
          have n2 := hnd c hcv
          dsimp only
          show (if zI (c : Int) = -1 then _ else (m_X13_changeMinutes k i h σ).bind fun v25 => (m_X13_changeMinutes k c h σ).bind fun v26 => if zI v26 ≤ zI v25 then _ else _) = _
          rw [hch i hi c1.2, hch c hcv hc6, bind_some', bind_some', zI_of (by omega) (by omega), if_neg (by omega), zI_of (by omega) (by omega), zI_of (by omega) (by omega)]
          by_cases c4 : need (prm β) N h i < need (prm β) N h c
          · rw [if_neg (by omega), if_pos c4]; rfl
          · rw [if_pos (by omega), if_neg c4]; rfl
      · have hcc : canCh (prm β) N t i = false := bfalse fun z => c3 (canCh_iff.mp z).2.2
        rw [if_neg (by omega), hcc]
        rfl
    · have hcc : canCh (prm β) N t i = false := bfalse fun z => c1 ⟨(canCh_iff.mp z).2.1, (canCh_iff.mp z).1⟩
      rw [if_neg c1, zI_of (by omega) (by omega), if_pos rfl, hcc]
      rfl
  · intro rec
    dsimp only
    simp (disch := omega) only [epv, zI_of (n := β 5), hβ, if_pos, xck_of, tn_lit]
    cases eb : bestO (prm β) N h t (pv (prm β)) with
    | none =>
      rw [oI_none, zI_of (by omega) (by omega), if_pos rfl]
      rfl
    | some c =>
      have hc := bestO_some eb
      have hc6 := (canCh_iff.mp hc.2).1
      have n2 := hnd c hc.1
      show (if zI (c : Int) = -1 then _ else (m_X13_changeMinutes k c h σ).bind fun v7 => xck (zI (c : Int)) 4 <| xlet (xput σ 202 (zI (c : Int)).toNat h) fun s8 => xck (zI (c : Int)) 4 <| xlet (xput s8 203 (zI (c : Int)).toNat ((s8 184 34) + v7)) fun s9 => xck (zI (c : Int)) 4 <| xck (zI (c : Int)) 4 <| xlet (xput s9 204 (zI (c : Int)).toNat ((s9 204 (zI (c : Int)).toNat) + v7)) fun s10 => some s10) = _
      rw [hch c hc.1 hc6, bind_some']
      simp (disch := omega) only [zI_of (n := (c : Int)), if_neg, xck_of, tn_cast, xlet_eq, xput_ne, h34]
      rfl
end RNH
