/-! WORLDS THAT GROW: calls of constructors, their contracts, regions that are whole -/
def hR (lo hi : Nat) (h : Nat → Nat → Bool) : Nat → Nat → Bool := fun k j => if lo ≤ k ∧ k < hi then true else h k j
def hlow (c : Nat) (h : Nat → Nat → Bool) : Prop := ∀ k j, c ≤ k → h k j = false
theorem hlow_S {c k0 j : Nat} {h : Nat → Nat → Bool} (hh : hlow c h) (hk : k0 < c) : hlow c (hS h k0 j) := fun k i hk' => by
  rw [hS_ne (fun q => by omega)]
  exact hh k i hk'
theorem hlow_R {lo c hi : Nat} {h : Nat → Nat → Bool} (hh : hlow c h) (hc : c ≤ hi) : hlow hi (hR lo hi h) := fun k i hk' => by
  unfold hR
  rw [if_neg (by omega)]
  exact hh k i (by omega)
theorem hlow_le {c c' : Nat} {h : Nat → Nat → Bool} (hh : hlow c h) (hc : c ≤ c') : hlow c' h := fun k i hk' => hh k i (by omega)
/-- whether a place holds a reference in the end -/
def rfs (k j : Nat) : Bool := decide ((rtL.getD k []).getD j 0 ≠ 0)
theorem WW_none {k j : Nat} {v : Int} (hk : k ≠ 0) (h : rfs k j = false) : WW.2.2 k j v = none := by
  have h0 : (rtL.getD k []).getD j 0 = 0 := by
    unfold rfs at h
    rw [decide_eq_false_iff_not] at h
    exact Classical.not_not.mp h
  have h3 : ¬ (k = 3 ∧ j = 0) := fun q => by
    rw [q.1, q.2] at h
    exact absurd h (by decide)
  show (if k = 0 ∧ (j = 3 ∨ j = 4) then some (bkA v) else if k = 3 ∧ j = 0 then some (txA v) else match (rtL.getD k []).getD j 0 with
    | 0 => none
    | a + 1 => some (a + 1)) = none
  rw [if_neg (fun q => hk q.1), if_neg h3, h0]
def InW (w : xW) (lo hi : Nat) : Prop := ∀ k, lo ≤ k → k < hi → xqi k < w.1 ∧ w.2.1 k = WW.2.1 k ∧ ∀ j v, w.2.2 k j v = WW.2.2 k j v
theorem wP_in {c lo hi : Nat} {h : Nat → Nat → Bool} (hc : hi + 1 ≤ c) (hh : ∀ k j, lo ≤ k → k < hi → h k j = true) : InW (wP c h) lo hi := fun k h1 h2 => ⟨Nat.lt_of_le_of_lt (xqi_le k) (by show k + 1 < c; omega), rfl, fun j v => by
  show (if h k j = true then _ else _) = _
  rw [hh k j h1 h2]
  rfl⟩
section GROW2
variable {ρ : Type} {X : xX} {Qf : ρ → State → Prop} {cc : ByteArray} {own : String} {ret : Option FieldType} {rm : Room} {nL : Nat} {σ : xS} {pc k z c : Nat} {h : Nat → Nat → Bool} {L : List (Nat × Value)} {st : List Value} {o : Option ρ}
theorem x_world {w w' : xW} (hw : w'.1 = w.1) (hx : ∀ k, xqi k < w.1 → w'.2.1 k = w.2.1 k ∧ ∀ j v, w'.2.2 k j v = w.2.2 k j v) (kk : WO X Qf w' σ pc L st o) : WO X Qf w σ pc L st o := by
  intro r hr H locs hR ls hl
  refine kk r hr H locs ⟨?_, by unfold xSz; rw [hw]; exact hR.2.1, hR.2.2⟩ ls hl
  have e : xws (xXE X) w' σ = xws (xXE X) w σ := by
    show (List.range w'.1).map (fun i => ((xXE X).2.2 + i, xC (xXE X) w' σ (xpi i))) = (List.range w.1).map (fun i => ((xXE X).2.2 + i, xC (xXE X) w σ (xpi i)))
    rw [hw]
    refine List.map_congr_left fun i hi => ?_
    obtain ⟨a, b⟩ := hx (xpi i) (by rw [xqp]; exact List.mem_range.mp hi)
    rw [xC_ext (σ' := σ) a b (fun _ => rfl)]
  rw [e]
  exact hR.1
/-- what was set one by one is the whole region -/
theorem x_wR {lo hi : Nat} {h' : Nat → Nat → Bool} (h0 : 0 < lo) (hq : ∀ k j, lo ≤ k → k < hi → rfs k j = true → h' k j = true) (ho : ∀ k j, ¬ (lo ≤ k ∧ k < hi) → h' k j = h k j) (kk : WO X Qf (wP c (hR lo hi h)) σ pc L st o) : WO X Qf (wP c h') σ pc L st o := by
  refine x_world (w := wP c h') (w' := wP c (hR lo hi h)) rfl (fun k hk => ⟨rfl, fun j v => ?_⟩) kk
  show (if hR lo hi h k j = true then WW.2.2 k j v else none) = (if h' k j = true then WW.2.2 k j v else none)
  by_cases d : lo ≤ k ∧ k < hi
  · have e : hR lo hi h k j = true := if_pos d
    rw [e]
    by_cases f : rfs k j = true
    · rw [hq k j d.1 d.2 f]
    · rw [WW_none (by omega) (by simpa using f)]
      simp
  · have e : hR lo hi h k j = h k j := if_neg d
    rw [e, ho k j d]
/-- a constructor called -/
theorem x_callI {y : MethodName} {b' : ByteArray} {nL' n idx k0 : Nat} {rm' : Room} {As : List Value} {w w' : xW} {τ : xS} (Cg : xCg X cc own ret rm nL) (hkr : k + rm'.cells ≤ rm.cells ∧ z + rm'.slots ≤ rm.slots) (hM : xMet (xXl X) (xXE X) y b' nL' none rm' (.ref (xqa (xXE X).2.2 k0) :: As) w w' σ (some (none, τ))) (m : xMth y b' nL' none n) (hi : y.name = "<init>") (hin : Cond.instanceMethod y ∈ GW) (hl : Cond.methodLink own idx y ∈ GW) (hn : As.length = n) (hroom : rm'.frames + 1 ≤ rm.frames ∧ 8 + (nL' + 11) + rm'.locals ≤ rm.locals) {st0 : List Value} (hst : st0 = As.reverse ++ .ref (xqa (xXE X).2.2 k0) :: st) (hcat : (st.map fun v => v.category).sum ≤ 8) (d : decode cc pc = .ok (.invokespecial idx, 3))
    (kk : WO (xat X (k + rm'.cells) (z + rm'.slots)) Qf w' τ (pc + 3) L st o) : WO (xat X k z) Qf w σ pc L st0 o := by
  intro r0 h H locs hR ls hls
  have C := Cg k z (by omega) (by omega)
  have hR' : xXR X = rm := C.2.2.2.2.2.2.2.2.2.1
  refine x_ran C hR hls h (r := (none, τ)) (va_runI (n := n) (mc := rm'.cells) (ms := rm'.slots) (rest := st) ⟨C.1, C.2.1, C.2.2.1, C.2.2.2.1, C.2.2.2.2.1⟩ (hM _ rfl) (by
      show CallB (xXR X) _ _ _ _ _ _ _ _ _ _ _ _ _ ∧ _
      rw [hR']
      exact cwI n C.2.2.2.2.1 (GW_in (GW_cons m.1)) rfl rfl rfl (C.2.2.2.2.1 _ m.2.1) (C.2.2.2.2.1 _ hl) (C.2.2.2.2.1 _ hin) hi m.2.2 hroom)
    ⟨xPre_blind, fun U hU hW => ⟨rfl, xPre_of C hR U hU hW⟩⟩ rfl hn (hls.1.trans C.2.2.2.2.2.2.2.2.2.2.1) hst (lv_room hcat) d (by show k + _ ≤ (xXR X).cells ∧ z + _ ≤ (xXR X).slots; rw [hR']; exact hkr)) (fun H1 locs1 hR1 => ?_)
  exact kk r0 h H1 locs1 hR1 ls hls
/-- a nest mate's constructor called -/
theorem x_callIN {y : MethodName} {b' : ByteArray} {nL' n idx k0 : Nat} {rm' : Room} {As : List Value} {w w' : xW} {τ : xS} {host : String} (Cg : xCg X cc own ret rm nL) (hkr : k + rm'.cells ≤ rm.cells ∧ z + rm'.slots ≤ rm.slots) (hM : xMet (xXl X) (xXE X) y b' nL' none rm' (.ref (xqa (xXE X).2.2 k0) :: As) w w' σ (some (none, τ))) (m : xMth y b' nL' none n) (hi : y.name = "<init>") (hin : Cond.instanceMethod y ∈ GW) (hl : (own, idx, y, host) ∈ NWl) (hn : As.length = n) (hroom : rm'.frames + 1 ≤ rm.frames ∧ 8 + (nL' + 11) + rm'.locals ≤ rm.locals) {st0 : List Value} (hst : st0 = As.reverse ++ .ref (xqa (xXE X).2.2 k0) :: st) (hcat : (st.map fun v => v.category).sum ≤ 8) (d : decode cc pc = .ok (.invokespecial idx, 3))
    (kk : WO (xat X (k + rm'.cells) (z + rm'.slots)) Qf w' τ (pc + 3) L st o) : WO (xat X k z) Qf w σ pc L st0 o := by
  intro r0 h H locs hR ls hls
  have C := Cg k z (by omega) (by omega)
  have hR' : xXR X = rm := C.2.2.2.2.2.2.2.2.2.1
  refine x_ran C hR hls h (r := (none, τ)) (va_runIN (n := n) (mc := rm'.cells) (ms := rm'.slots) (rest := st) ⟨C.1, C.2.1, C.2.2.1, C.2.2.2.1, C.2.2.2.2.1⟩ (hM _ rfl) (by
      show va_CN (xXR X) _ _ _ _ _ _ _ _ _ _ _ _ _ _ ∧ _
      rw [hR']
      exact ⟨va_cnB n C.2.2.2.2.1 (GW_in (GW_cons m.1)) rfl rfl rfl (C.2.2.2.2.2.2.2.2.2.2.2.2.1 _ hl) (C.2.2.2.2.1 _ m.2.1) m.2.2 hroom, hi, C.2.2.2.2.1 _ hin⟩)
    ⟨xPre_blind, fun U hU hW => ⟨rfl, xPre_of C hR U hU hW⟩⟩ rfl hn (hls.1.trans C.2.2.2.2.2.2.2.2.2.2.1) hst (lv_room hcat) d (by show k + _ ≤ (xXR X).cells ∧ z + _ ≤ (xXR X).slots; rw [hR']; exact hkr)) (fun H1 locs1 hR1 => ?_)
  exact kk r0 h H1 locs1 hR1 ls hls
end GROW2
/-- the end of a constructor -/
theorem x_vretG {X : xX} {cc : ByteArray} {own : String} {rm : Room} {nL : Nat} {σ : xS} {pc k z : Nat} {L : List (Nat × Value)} {w' : xW} (Cg : xCg X cc own none rm nL) (hk : k ≤ rm.cells) (hz : z ≤ rm.slots) (d : decode cc pc = .ok (.return_, 1)) : WO (xat X k z) (fun r => MQ (xXb X) (xQ (xXE X) w' r) (xXa X) (xXs X) rm.cells rm.slots (xA (xXE X))) w' σ pc L [] (some (none, σ)) := by
  intro r h H locs hR ls hl
  cases h
  refine W.widen (k := rm.cells) (n := rm.slots) hk hz ?_
  have C := Cg rm.cells rm.slots (Nat.le_refl _) (Nat.le_refl _)
  exact W.vret C.1 C.2.1 (C.2.2.2.2.2.2.2.2.1) (xQ_end C hR) hR.2.2.2.2 d C.2.2.2.2.2.2.1
/-- a contract of a method that makes cells, from its walk -/
theorem xMetG_of {l : Launch} {E : xE} {y : MethodName} {b : ByteArray} {nL : Nat} {ret : Option FieldType} {rm : Room} {as : List Value} {w w' : xW} {σ : xS} {res : Option (Option Value × xS)} (hy : plainName y.cls = true) (hn : (lg_sl as).length ≤ nL)
    (k : ∀ X : xX, E = xXE X → (xXd X).name = y.name → xCg X b y.cls ret rm nL → WO (xat X 0 0) (fun r => MQ (xXb X) (xQ (xXE X) w' r) (xXa X) (xXs X) rm.cells rm.slots (xA (xXE X))) w σ 0 (lv_args 0 as) [] res) : xMet l E y b nL ret rm as w w' σ res := by
  refine xMet.of hy hn fun X hE hk hs hname C => ?_
  have h := k X hE hname (xCg_of C)
  have e : xat X (xXk X) (xXz X) = X := rfl
  rw [hk, hs] at e
  rw [e] at h
  exact h
