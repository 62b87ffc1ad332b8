/-! CALLS THAT MAKE CELLS OF THEIR OWN beside all that is there; static methods of the law on the class -/
def mU (M N : tMp) : tMp := fun q => match M q with
  | some e => some e
  | none => N q
theorem mU_l {M N : tMp} {q : Nat} {e : va_E} (h : M q = some e) : mU M N q = some e := by
  unfold mU
  rw [h]
theorem mU_r {M N : tMp} {q : Nat} (h : M q = none) : mU M N q = N q := by
  unfold mU
  rw [h]
section TFRESH
variable {X : xX} {A : Nat → Prop} {ss ss1 : tSs} {Q : State → Prop} {M : tMp} {nk nz pc : Nat} {L : List (Nat × Value)} {st : List Value} {cc : ByteArray} {own : String} {ret : Option FieldType} {rm : Room} {nL : Nat} {P : Option Value → tMp → Prop}
variable {y : MethodName} {b' : ByteArray} {nL' n idx : Nat} {ret' : Option FieldType} {rm' : Room} {As : List Value}
theorem tw_callF (C : tCx X A ss cc own ret rm nL) (hM : ∀ A1 : Nat → Prop, tMet (xXl X) (xXE X) y b' nL' ret' rm' As A1 ss1 tN P) (hss : ∀ q ∈ ss1, q ∈ ss) (m : xMth y b' nL' ret' n) (v : Cond.static y ∈ GW) (hl : Cond.methodLink own idx y ∈ GW) (hn : As.length = n) (hroom : rm'.frames + 1 ≤ rm.frames ∧ 8 + (nL' + 11) + rm'.locals ≤ rm.locals) (hz : nk + rm'.cells ≤ rm.cells ∧ nz + rm'.slots ≤ rm.slots) {st0 : List Value} (hst : st0 = As.reverse ++ st) (hcat : (st.map fun v => v.category).sum ≤ 8) (d : decode cc pc = .ok (.invokestatic idx, 3))
    (kk : ∀ v M', P v M' → (∀ q e, M' q = some e → M q = none) → TO X A Q (mU M M') (nk + rm'.cells) (nz + rm'.slots) (pc + 3) L (v.toList ++ st)) : TO X A Q M nk nz pc L st0 := by
  intro H locs hR ls hls
  have hR' : xXR X = rm := C.2.2.2.2.2.2.2.2.2.1
  have hrun := va_runS (n := n) (mc := rm'.cells) (ms := rm'.slots) (rest := st) (cells := nk) (slots := nz) (locs := locs) (H := H) (g := F0 (xXm X) pc ls st0) (Ts := GW) (own := own) (nL := nL) (cc := cc) (As := As) (e := xXe X) (below := xXb X) (p := xXp X) (meth := xXd X) (R := xXR X) ⟨C.1, C.2.1, C.2.2.1, C.2.2.2.1, C.2.2.2.2.1⟩ (hM (fun q => H.size ≤ q)) (by
      rw [hR']
      exact ⟨callB_of n C.2.2.2.2.1 (GW_in (GW_cons m.1)) rfl rfl rfl (C.2.2.2.2.1 _ m.2.1) (C.2.2.2.2.1 _ hl) m.2.2 hroom, C.2.2.2.2.1 _ v⟩)
    ⟨tPre_blind, fun U hU hW => ⟨rfl, tH_nil, fun q hq => by rw [hU] at hq; exact hq, xK_moved hW.alike C.2.2.2.2.2.1, by
      rw [hU]
      have h := tK_fresh (B := fun q => H.size ≤ q) (tK_kept hW hR.2.2.1 C.2.2.2.2.2.2.2.2.2.2.2) (fun q hq => Or.inr hq)
      exact ⟨h.1, h.2.1, h.2.2.1, h.2.2.2.1, fun q hq => h.2.2.2.2 q (hss q hq)⟩⟩⟩ rfl hn (hls.1.trans C.2.2.2.2.2.2.2.2.2.2.1) hst (lv_room hcat) d (by rw [hR']; exact hz)
  intro T hT XX
  obtain ⟨v0, st₀, t, T', L', h0, X', hL, e1, e2, ⟨v', M', hv, hP, hH, hz1, hk⟩, stp⟩ := hrun T hT XX
  cases hv
  rw [h0] at hz1 hk
  obtain ⟨⟨ws, hP0, hD0, hm0⟩, hS⟩ := hR
  have hdis : ∀ q e, M' q = some e → M q = none := fun q e hq => by
    have h1 : H.size ≤ q := (tH_A hH hq).1
    cases hMq : M q with
    | none => rfl
    | some f =>
      obtain ⟨k, hk0⟩ := hm0 q f hMq
      exact absurd (hP0 k _ hk0).lt (Nat.not_lt.mpr h1)
  obtain ⟨t2, a1, b1⟩ := kk v0 M' hP hdis T'.heap (locs ++ L') ⟨by
      rw [e1]
      obtain ⟨ws', hP1, hD1, hm1⟩ := hH
      obtain ⟨d1, d2⟩ := va_D_iff.mp hD0
      obtain ⟨d3, d4⟩ := va_D_iff.mp hD1
      refine ⟨ws ++ ws', fun k q hkq => ?_, va_D_iff.mpr ⟨List.pairwise_append.mpr ⟨d1, d3, fun p hp q hq c => ?_⟩, fun q hq => ?_⟩, fun a e ha => ?_⟩
      · rcases List.mem_append.mp (List.mem_of_getElem? hkq) with c | c
        · obtain ⟨k', hk'⟩ := List.getElem?_of_mem c
          have hat := hP0 k' q hk'
          exact hat.kept (hk _ hat.lt (Nat.not_le.mpr hat.lt))
        · obtain ⟨k', hk'⟩ := List.getElem?_of_mem c
          exact hP1 k' q hk'
      · obtain ⟨k', hk'⟩ := List.getElem?_of_mem hp
        have h1 := (hP0 k' p hk').lt
        have h2 : H.size ≤ q.1 := d4 q hq
        omega
      · rcases List.mem_append.mp hq with c | c
        · exact d2 q c
        · exact C.2.2.2.2.2.2.2.1 _ (Nat.le_trans hS.1 (d4 q c))
      · cases hMa : M a with
        | none =>
          rw [mU_r hMa] at ha
          obtain ⟨k, hk'⟩ := hm1 a e ha
          exact List.getElem?_of_mem (List.mem_append_right _ (List.mem_of_getElem? hk'))
        | some f =>
          rw [mU_l hMa] at ha
          cases ha
          obtain ⟨k, hk'⟩ := hm0 a e hMa
          exact List.getElem?_of_mem (List.mem_append_left _ (List.mem_of_getElem? hk')), Nat.le_trans hS.1 (by rw [e1]; exact hz1), fun q h1 h2 => by rw [e1, hk q (Nat.lt_of_lt_of_le h1 hS.1) (Nat.not_le.mpr (Nat.lt_of_lt_of_le h1 hS.1))]; exact hS.2.1 q h1 h2, fun q hq => by
      rcases List.mem_append.mp hq with h | h
      · exact hS.2.2 q h
      · exact C.2.2.2.2.2.2.2.1 _ (Nat.le_trans hS.1 (hL q h))⟩ ls hls T' rfl X'
  exact ⟨t2, stp t2 a1, b1⟩
theorem tGo_sub {A1 : Nat → Prop} {M1 N : tMp} (h : tGo X A M A1 ss1 M1) (hN : ∀ a e, N a = some e → M1 a = some e) : tGo X A M A1 ss1 N := ⟨h.1, fun H locs hR U hU hW => by
  have g := h.2 H locs hR U hU hW
  exact ⟨tH_sub g.1 hN, g.2⟩⟩
/-- a static method of the law that is given the class's object -/
theorem tw_callXS (C : tCx X A ss cc own ret rm nL) {σ : xS} {N : tMp} {res : Option (Option Value × xS)} {r : Option Value × xS} (hM : xMet (xXl X) (xXE X) y b' nL' ret' rm' As WW WW σ res) (hres : res = some r) (hfl : (xXE X).2.1.2.2 9 0 ≠ 0) (ham : ∀ U H, (xXE X).2.1.2.1 U H) (hA : ∀ q, xA (xXE X) q → A q) (hN : ∀ q e, N q = some e → ¬ xA (xXE X) q) (m : xMth y b' nL' ret' n) (v : Cond.static y ∈ GW) (hl : Cond.methodLink own idx y ∈ GW) (hn : As.length = n) (hroom : rm'.cells = 0 ∧ rm'.slots = 0 ∧ rm'.frames + 1 ≤ rm.frames ∧ 8 + (nL' + 11) + rm'.locals ≤ rm.locals) (hz : nk ≤ rm.cells ∧ nz ≤ rm.slots) {st0 : List Value} (hst : st0 = As.reverse ++ st) (hcat : (st.map fun v => v.category).sum ≤ 8) (d : decode cc pc = .ok (.invokestatic idx, 3))
    (kk : TO X A Q (wA (xXE X) r.2 N) nk nz (pc + 3) L (r.1.toList ++ st)) : TO X A Q (wA (xXE X) σ N) nk nz pc L st0 := by
  intro H locs hR ls hls
  have hR' : xXR X = rm := C.2.2.2.2.2.2.2.2.2.1
  obtain ⟨hrc, hrs, hf1, hf2⟩ := hroom
  obtain ⟨hP, hsz⟩ := wA_P hR.1
  have hpre : ∀ U : State, U.heap = H → (xXs X).WarmedH U.vm → xPre (xXE X) WW σ U := fun U hU hW => by
    have hK := tK_kept hW hR.2.2.1 C.2.2.2.2.2.2.2.2.2.2.2
    have hKW := KW_fresh (B := xA (xXE X)) hK.2.2.2.1.2 (fun q hq => Or.inl (hA q hq))
    refine ⟨⟨by rw [hU]; exact hP, ⟨⟨by rw [hU]; exact hsz, Nat.le_refl _⟩, fun h => absurd h hfl⟩, xK_moved hW.alike C.2.2.2.2.2.1⟩, hK.2.2.2.1.1.2.2, ⟨by rw [hU]; exact hKW, ham _ _⟩, xAmC_of (fun s U H H1 _ _ _ => ham _ _)⟩
  have hrun := va_runS (n := n) (mc := rm'.cells) (ms := rm'.slots) (rest := st) (cells := nk) (slots := nz) (locs := locs) (H := H) (g := F0 (xXm X) pc ls st0) (Ts := GW) (own := own) (nL := nL) (cc := cc) (As := As) (e := xXe X) (below := xXb X) (p := xXp X) (meth := xXd X) (R := xXR X) ⟨C.1, C.2.1, C.2.2.1, C.2.2.2.1, C.2.2.2.2.1⟩ (hM r hres) (by
      rw [hR']
      exact ⟨callB_of n C.2.2.2.2.1 (GW_in (GW_cons m.1)) rfl rfl rfl (C.2.2.2.2.1 _ m.2.1) (C.2.2.2.2.1 _ hl) m.2.2 ⟨hf1, hf2⟩, C.2.2.2.2.1 _ v⟩)
    ⟨xPre_blind, fun U hU hW => ⟨rfl, hpre U hU hW⟩⟩ rfl hn (hls.1.trans C.2.2.2.2.2.2.2.2.2.2.1) hst (lv_room hcat) d (by rw [hR', hrc, hrs]; exact hz)
  intro T hT XX
  obtain ⟨v0, st₀, t, T', L', h0, X', hL, e1, e2, ⟨hv, ⟨hp1, hp2, hp3⟩, hz1, hk⟩, stp⟩ := hrun T hT XX
  cases hv
  rw [h0] at hz1 hk
  have hS := hR.2
  rw [hrc, hrs] at X'
  obtain ⟨t2, a1, b1⟩ := kk T'.heap (locs ++ L') ⟨by rw [e1]; exact wA_back hR.1 hN hk hp1 hA, Nat.le_trans hS.1 (by rw [e1]; exact hz1), fun q h1 h2 => by rw [e1, hk q (Nat.lt_of_lt_of_le h1 hS.1) (fun c => h2 (hA q c))]; exact hS.2.1 q h1 h2, fun q hq => by
      rcases List.mem_append.mp hq with h | h
      · exact hS.2.2 q h
      · exact hA _ (hL q h)⟩ ls hls T' rfl X'
  exact ⟨t2, stp t2 a1, b1⟩
end TFRESH
