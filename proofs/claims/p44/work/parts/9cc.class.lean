/-! THE CLASS AMONG TEMPORARY CELLS: the class's objects as a part of the map; a call of the class; rows of ints -/
/-- the map of the class's objects, and what else is told -/
def wA (E : xE) (σ : xS) (N : tMp) : tMp := fun q => if E.2.2 ≤ q ∧ q < E.2.2 + 185 then some (xC E WW σ (xpi (q - E.2.2))) else N q
theorem wA_at {E : xE} {σ : xS} {N : tMp} {i : Nat} (h : i < 185) : wA E σ N (E.2.2 + i) = some (xC E WW σ (xpi i)) := by
  unfold wA
  rw [if_pos ⟨Nat.le_add_right _ _, by omega⟩, Nat.add_sub_cancel_left]
theorem wA_N {E : xE} {σ : xS} {N : tMp} {q : Nat} (h : ¬ xA E q) : wA E σ N q = N q := if_neg h
theorem wA_P {E : xE} {A : Nat → Prop} {σ : xS} {N : tMp} {H : Heap} (h : tH E A (wA E σ N) H) : va_P E.1 vwCl (xws E WW σ) H ∧ E.2.2 + 185 ≤ H.size := by
  refine ⟨fun k q hk => ?_, ?_⟩
  · have hk' : k < WW.1 := by
      have := (List.getElem?_eq_some_iff.mp hk).1
      simpa [xws] using this
    rw [xws_nth hk'] at hk
    cases hk
    exact (tH_A h (wA_at hk')).2
  · obtain ⟨ws, hP, hD, hm⟩ := h
    obtain ⟨k, hk⟩ := hm _ _ (wA_at (E := E) (σ := σ) (N := N) (i := 184) (by decide))
    have := (hP k _ hk).lt
    show E.2.2 + 184 + 1 ≤ H.size
    exact this
/-- the map of the class's objects out of their list -/
theorem wA_of {E : xE} {A : Nat → Prop} {σ : xS} {H : Heap} (hP : va_P E.1 vwCl (xws E WW σ) H) (hA : ∀ q, xA E q → A q) : tH E A (wA E σ tN) H := by
  have hD := xws_D E WW σ (Nat.le_refl 185)
  refine ⟨xws E WW σ, hP, ⟨hD.1, fun k q hk => hA _ (hD.2 k q hk)⟩, fun a e h => ?_⟩
  unfold wA at h
  split at h
  · next c =>
    cases h
    refine ⟨a - E.2.2, ?_⟩
    rw [xws_nth (show a - E.2.2 < WW.1 by show a - E.2.2 < 185; omega), show E.2.2 + (a - E.2.2) = a by omega]
  · cases h
/-- behind a call of the class: its objects anew, the rest as it was -/
theorem wA_back {E : xE} {A : Nat → Prop} {σ σ' : xS} {N : tMp} {H H1 : Heap} (h : tH E A (wA E σ N) H) (hN : ∀ q e, N q = some e → ¬ xA E q) (hk : ∀ q : Nat, q < H.size → ¬ xA E q → H1[q]? = H[q]?) (hP : va_P E.1 vwCl (xws E WW σ') H1) (hA : ∀ q, xA E q → A q) : tH E A (wA E σ' N) H1 := by
  obtain ⟨ws, hP0, hD0, hm⟩ := h
  obtain ⟨hD1, hD2⟩ := va_D_iff.mp hD0
  obtain ⟨hE1, hE2⟩ := va_D_iff.mp (xws_D E WW σ' (Nat.le_refl 185))
  let ws' := ws.filter (fun q => decide (¬ (E.2.2 ≤ q.1 ∧ q.1 < E.2.2 + 185)))
  have hmem : ∀ q ∈ ws', q ∈ ws ∧ ¬ xA E q.1 := fun q hq => by
    obtain ⟨h1, h2⟩ := List.mem_filter.mp hq
    exact ⟨h1, (of_decide_eq_true h2 : ¬ (E.2.2 ≤ q.1 ∧ q.1 < E.2.2 + 185))⟩
  refine ⟨xws E WW σ' ++ ws', fun k q hkq => ?_, va_D_iff.mpr ⟨List.pairwise_append.mpr ⟨hE1, hD1.filter _, fun p hp q hq c => (hmem q hq).2 (by rw [← c]; exact hE2 p hp)⟩, fun q hq => ?_⟩, fun a e ha => ?_⟩
  · rcases List.mem_append.mp (List.mem_of_getElem? hkq) with c | c
    · obtain ⟨k', hk'⟩ := List.getElem?_of_mem c
      exact hP k' q hk'
    · obtain ⟨h1, h2⟩ := hmem q c
      obtain ⟨k', hk'⟩ := List.getElem?_of_mem h1
      have hat := hP0 k' q hk'
      exact hat.kept (hk _ hat.lt h2)
  · rcases List.mem_append.mp hq with c | c
    · exact hA _ (hE2 q c)
    · exact hD2 q (hmem q c).1
  · by_cases c : xA E a
    · have h9 : wA E σ' N a = some (xC E WW σ' (xpi (a - E.2.2))) := if_pos c
      rw [h9] at ha
      cases ha
      have h8 := xws_nth (E := E) (w := WW) (σ := σ') (i := a - E.2.2) (show a - E.2.2 < 185 by have := c.1; have := c.2; omega)
      rw [show E.2.2 + (a - E.2.2) = a by have := c.1; omega] at h8
      exact List.getElem?_of_mem (List.mem_append_left _ (List.mem_of_getElem? h8))
    · rw [wA_N c] at ha
      obtain ⟨k, hk'⟩ := hm a e (by rw [wA_N c]; exact ha)
      exact List.getElem?_of_mem (List.mem_append_right _ (List.mem_filter.mpr ⟨List.mem_of_getElem? hk', decide_eq_true (p := ¬ (E.2.2 ≤ a ∧ a < E.2.2 + 185)) c⟩))
section TCLASS
variable {X : xX} {A : Nat → Prop} {ss : tSs} {Q : State → Prop} {M : tMp} {nk nz pc : Nat} {L : List (Nat × Value)} {st : List Value} {cc : ByteArray} {own : String} {ret : Option FieldType} {rm : Room} {nL : Nat}
/-- a method of the class called, on its object -/
theorem tw_callX (C : tCx X A ss cc own ret rm nL) {y : MethodName} {b' : ByteArray} {nL' n idx : Nat} {ret' : Option FieldType} {rm' : Room} {As : List Value} {σ : xS} {N : tMp} {res : Option (Option Value × xS)} {r : Option Value × xS} (hM : xMet (xXl X) (xXE X) y b' nL' ret' rm' (.ref (xqa (xXE X).2.2 0) :: As) WW WW σ res) (hres : res = some r) (hfl : (xXE X).2.1.2.2 9 0 ≠ 0) (ham : ∀ U H, (xXE X).2.1.2.1 U H) (hA : ∀ q, xA (xXE X) q → A q) (hN : ∀ q e, N q = some e → ¬ xA (xXE X) q) (m : xMth y b' nL' ret' n) (v : xVir y) (hcls : y.cls = RX12) (hl : Cond.methodLink own idx y ∈ GW) (hn : As.length = n) (hroom : rm'.cells = 0 ∧ rm'.slots = 0 ∧ rm'.frames + 1 ≤ rm.frames ∧ 8 + (nL' + 11) + rm'.locals ≤ rm.locals) (hz : nk ≤ rm.cells ∧ nz ≤ rm.slots) {st0 : List Value} (hst : st0 = As.reverse ++ .ref (xqa (xXE X).2.2 0) :: st) (hcat : (st.map fun v => v.category).sum ≤ 8) (d : decode cc pc = .ok (.invokevirtual idx, 3))
    (kk : TO X A Q (wA (xXE X) r.2 N) nk nz (pc + 3) L (r.1.toList ++ st)) : TO X A Q (wA (xXE X) σ N) nk nz pc L st0 := by
  intro H locs hR ls hls
  have hR' : xXR X = rm := C.2.2.2.2.2.2.2.2.2.1
  obtain ⟨hrc, hrs, hf1, hf2⟩ := hroom
  obtain ⟨hP, hsz⟩ := wA_P hR.1
  have hpre : ∀ U : State, U.heap = H → (xXs X).WarmedH U.vm → xPre (xXE X) WW σ U := fun U hU hW => by
    have hK := tK_kept hW hR.2.2.1 C.2.2.2.2.2.2.2.2.2.2.2
    have hKW := KW_fresh (B := xA (xXE X)) hK.2.2.2.1.2 (fun q hq => Or.inl (hA q hq))
    refine ⟨⟨by rw [hU]; exact hP, ⟨⟨by rw [hU]; exact hsz, Nat.le_refl _⟩, fun h => absurd h hfl⟩, xK_moved hW.alike C.2.2.2.2.2.1⟩, hK.2.2.2.1.1.2.2, ⟨by rw [hU]; exact hKW, ham _ _⟩, xAmC_of (fun s U H H1 _ _ _ => ham _ _)⟩
  have hrec : ∃ cell : Cell, H[xqa (xXE X).2.2 0]? = some cell ∧ cell.vm.isStatics = false ∧ (xXs X).vm.findClass y.cls = some cell.cls := by
    rw [hcls]
    have A0 : xAt WW 0 (20 + 10) 12 := ⟨by decide, rfl⟩
    exact va_recv C.2.2.2.2.2.1 hP cls_X12.1 ((xws_get A0.1).trans (by rw [xC_obj A0.2]))
  have hrun := va_runV (C := y.cls) (n := n) (mc := rm'.cells) (ms := rm'.slots) (rest := st) (cells := nk) (slots := nz) (locs := locs) (H := H) (g := F0 (xXm X) pc ls st0) (Ts := GW) (own := own) (nL := nL) (cc := cc) (As := As) (b := xqa (xXE X).2.2 0) (e := xXe X) (below := xXb X) (p := xXp X) (meth := xXd X) ⟨C.1, C.2.1, C.2.2.1, C.2.2.2.1, C.2.2.2.2.1⟩ (hM r hres) (R := xXR X) (by
      rw [hR']
      exact cwV n C.2.2.2.2.1 (GW_in (fun w hw => by
        unfold wsV at hw
        rcases List.mem_append.mp hw with hw | hw
        · simp only [List.mem_cons, List.not_mem_nil, or_false] at hw
          rcases hw with rfl | rfl | rfl | rfl
          · exact hl
          · exact v.1
          · exact v.2
          · exact m.2.1
        · exact GW_cons m.1 w hw)) rfl rfl rfl ⟨rfl, m.2.2⟩ ⟨hf1, hf2⟩)
    ⟨xPre_blind, hrec, fun U hU hW => ⟨rfl, hpre U hU hW⟩⟩ rfl hn (hls.1.trans C.2.2.2.2.2.2.2.2.2.2.1) hst (lv_room hcat) d (by rw [hR', hrc, hrs]; exact hz)
  intro T hT XX
  obtain ⟨v0, st₀, t, T', L', h0, X', hL, e1, e2, ⟨hv, ⟨hp1, hp2, hp3⟩, hz1, hk⟩, stp⟩ := hrun T hT XX
  cases hv
  rw [h0] at hz1 hk
  have hS := hR.2
  rw [hrc, hrs] at X'
  obtain ⟨t2, a1, b1⟩ := kk T'.heap (locs ++ L') ⟨by rw [e1]; exact wA_back hR.1 hN hk hp1 hA, Nat.le_trans hS.1 (by rw [e1]; exact hz1), fun q h1 h2 => by rw [e1, hk q (Nat.lt_of_lt_of_le h1 hS.1) (fun c => h2 (hA q c))]; exact hS.2.1 q h1 h2, fun q hq => by
      rcases List.mem_append.mp hq with h | h
      · exact hS.2.2 q h
      · exact hA _ (hL q h)⟩ ls hls T' rfl X'
  exact ⟨t2, stp t2 a1, b1⟩
theorem tw_newI (C : tCx X A ss cc own ret rm nL) {n : Nat} {v : Int} (hw : Cond.arrayClass (newarray.typeOf .int) ∈ GW) (hv : Int32.ofInt v = Int32.ofNat n) (hn : n < 100000) (d : decode cc pc = .ok (.newarray .int, 2)) (h1 : nk + 1 ≤ rm.cells) (h2 : nz + n ≤ rm.slots)
    (kk : ∀ q, (∀ b f, M b = some f → b ≠ q) → TO X A Q (tU M q (.inl ((xXE X).2.1.1 0, n, .inl (fun _ => 0)))) (nk + 1) (nz + n) (pc + 2) L (.ref q :: st)) : TO X A Q M nk nz pc L (iV v :: st) := by
  intro H locs hR ls hls
  obtain ⟨⟨ws, hP, hD, hm⟩, hS⟩ := hR
  have hR' : xXR X = rm := C.2.2.2.2.2.2.2.2.2.1
  have e1 : Int32.ofInt v = Int32.ofInt (n : Int) := hv.trans (ofN n)
  have e2 : (Int32.ofInt v).toInt = n := by rw [e1]; exact zI_eq (by omega) (by omega)
  refine va_newa C.1 C.2.1 (C.2.2.2.2.1 _ hw) rfl C.2.2.2.2.2.1 hP hD hS C.2.2.2.2.2.2.2.1 (N' := n) (a0 := (n, .inl (fun _ => 0))) (fun cA => rfl) (fun h => by rw [Int32.lt_iff_toInt_lt, e2] at h; simp at h; omega) (by show (Int32.ofInt v).toInt.toNat = n; rw [e2]; rfl) (by show n * 4 ≤ _; omega) (by rw [hR']; exact h1) (by rw [hR']; exact h2) d (fun q cA H1 hK1 hP1 hD1 hS1 => ?_)
  have hc : cA = (xXE X).2.1.1 0 := by
    have g1 := (hK1.2 (xtys (xXE X).2.1.1).length (cA, .int) (by rw [List.getElem?_append_right (Nat.le_refl _), Nat.sub_self]; rfl)).2
    have g2 := (C.2.2.2.2.2.1.2 0 _ rfl).2
    exact Option.some.inj (g1.symm.trans g2)
  subst hc
  obtain ⟨g1, g2⟩ := tH_new hm hP1 hD1
  exact kk q g2 H1 locs ⟨g1, hS1⟩ ls hls
theorem tw_ild (C : tCx X A ss cc own ret rm nL) {a n : Nat} {f : Nat → Int32} (hM : M a = some (.inl ((xXE X).2.1.1 0, n, .inl f))) {i i' : Int} (hi : zI i = i') (hlo : 0 ≤ i') (hhi : i' < n) (d : decode cc pc = .ok (.iaload, 1)) (kk : TO X A Q M nk nz (pc + 1) L (iV (f i'.toNat).toInt :: st)) : TO X A Q M nk nz pc L (iV i :: .ref a :: st) := by
  subst hi
  intro H locs hR ls hl
  obtain ⟨⟨ws, hP, hD, hm⟩, hS⟩ := hR
  obtain ⟨k0, hk0⟩ := hm _ _ hM
  refine va_iald C.1 C.2.1 C.2.2.2.2.2.1 hP k0 0 hk0 rfl (xin ⟨hlo, hhi⟩) d ?_
  have h9 := kk H locs ⟨⟨ws, hP, hD, hm⟩, hS⟩ ls hl
  unfold iV at h9
  rw [Int32.ofInt_toInt] at h9
  exact h9
theorem tw_ist (C : tCx X A ss cc own ret rm nL) {a n : Nat} {f : Nat → Int32} (hM : M a = some (.inl ((xXE X).2.1.1 0, n, .inl f))) {i i' x : Int} (hi : zI i = i') (hlo : 0 ≤ i') (hhi : i' < n) (d : decode cc pc = .ok (.iastore, 1)) (kk : TO X A Q (tU M a (.inl ((xXE X).2.1.1 0, n, .inl (upd f i'.toNat (Int32.ofInt x))))) nk nz (pc + 1) L st) : TO X A Q M nk nz pc L (iV x :: iV i :: .ref a :: st) := by
  subst hi
  intro H locs hR ls hls
  obtain ⟨⟨ws, hP, hD, hm⟩, hS⟩ := hR
  obtain ⟨k0, hk0⟩ := hm _ _ hM
  exact va_iast C.1 C.2.1 C.2.2.2.2.2.1 hP hD hS k0 0 hk0 rfl (xin ⟨hlo, hhi⟩) d (fun H1 locs1 hP1 hD1 hS1 => kk H1 locs1 ⟨tH_put hk0 hm hP1 hD1, hS1⟩ ls hls)
theorem tw_sub {N : tMp} (hN : ∀ a e, N a = some e → M a = some e) (kk : TO X A Q N nk nz pc L st) : TO X A Q M nk nz pc L st := fun H locs hR ls hl => kk H locs ⟨tH_sub hR.1 hN, hR.2⟩ ls hl
end TCLASS
