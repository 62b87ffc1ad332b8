/-! CONTRACTS OF WALKS WITH TEMPORARY CELLS: calls, ends -/
def tPre (E : xE) (A : Nat → Prop) (ss : tSs) (M : tMp) (U : State) : Prop := tH E A M U.heap ∧ (∀ q, U.heap.size ≤ q → A q) ∧ xK E U ∧ tK E A ss U U.heap
def tQ (E : xE) (A : Nat → Prop) (P : Option Value → tMp → Prop) : Array Value → State → Outcome → State → Prop := fun _ st oc t => ∃ v M', oc = .returned v ∧ P v M' ∧ tH E A M' t.heap ∧ va_F A st t
def tMet (l : Launch) (E : xE) (y : MethodName) (b : ByteArray) (nL : Nat) (ret : Option FieldType) (rm : Room) (as : List Value) (A : Nat → Prop) (ss : tSs) (M : tMp) (P : Option Value → tMp → Prop) : Prop :=
  Met l y (.code y b nL ret :: GW) rm (va_Pc as (tPre E A ss M)) (tQ E A P) rm.cells rm.slots A
theorem tPre_blind {E : xE} {A : Nat → Prop} {ss : tSs} {M : tMp} {as : List Value} : FrameBlind (va_Pc as (tPre E A ss M)) := fun a U g mk q => by
  obtain ⟨q0, q1, q2, q3, q4⟩ := q
  exact ⟨q0, q1, q2, xK_moved (u := U) (U := U.calling g mk a) (Vm.Alike.refl U.vm) q3, tK_kept (State.WarmedH.refl U) (fun _ _ _ => rfl) q4⟩
def tQf (X : xX) (A : Nat → Prop) (P : Option Value → tMp → Prop) (rm : Room) : State → Prop := MQ (xXb X) (tQ (xXE X) A P) (xXa X) (xXs X) rm.cells rm.slots A
theorem tMet.of {l : Launch} {E : xE} {y : MethodName} {b : ByteArray} {nL : Nat} {ret : Option FieldType} {rm : Room} {as : List Value} {A : Nat → Prop} {ss : tSs} {M : tMp} {P : Option Value → tMp → Prop} (hy : plainName y.cls = true) (hn : (lg_sl as).length ≤ nL)
    (k : ∀ X : xX, E = xXE X → l = xXl X → (xXd X).name = y.name → tCx X A ss b y.cls ret rm nL → TO X A (tQf X A P rm) M 0 0 0 (lv_args 0 as) []) : tMet l E y b nL ret rm as A ss M P := by
  refine Met.ofW (cc := b) (maxL := nL) (ret := ret) hy rfl ?_
  intro p e s m args below meth c s₁ B hml hv
  obtain ⟨rfl, hH, hA, hK, hT⟩ := hv
  have hts := atoms_spec (ws := .code y b nL ret :: GW) B.pre
  have C : tCx (p, l, e, rm, s, m, as.toArray, below, meth, c, E, nL, 0, 0) A ss b y.cls ret rm nL := ⟨B.exec, B.bytes, hml, findClass_of_methodNamed B.named, fun w hw => hts w (List.mem_cons_of_mem _ hw), hK, B.notSynchronized, hA, B.returns, rfl, rfl, hT⟩
  have hl := lv_entry as hn
  rw [lg_entry_eq]
  exact k _ rfl rfl (name_of_methodNamed B.named B.method).1 C s.heap [] ⟨hH, va_S.rf⟩ _ hl
/-- what a call is given: the set A1 that it may write, the map M1 of what it is told -/
def tGo (X : xX) (A : Nat → Prop) (M : tMp) (A1 : Nat → Prop) (ss1 : tSs) (M1 : tMp) : Prop := (∀ q, A1 q → A q) ∧ ∀ H locs, tR X A M H locs → ∀ U : State, U.heap = H → (xXs X).WarmedH U.vm → tPre (xXE X) A1 ss1 M1 U
def tRc (X : xX) (A : Nat → Prop) (M : tMp) (Cn : String) (b : Nat) : Prop := ∀ H locs, tR X A M H locs → ∃ cell : Cell, H[b]? = some cell ∧ cell.vm.isStatics = false ∧ (xXs X).vm.findClass Cn = some cell.cls
section TCALLS
variable {X : xX} {A A1 : Nat → Prop} {ss ss1 : tSs} {Q : State → Prop} {M M1 : tMp} {nk nz pc : Nat} {L : List (Nat × Value)} {st : List Value} {cc : ByteArray} {own : String} {ret : Option FieldType} {rm : Room} {nL : Nat} {P : Option Value → tMp → Prop}
theorem tGo_same (C : tCx X A ss cc own ret rm nL) : tGo X A M A ss M := ⟨fun _ h => h, fun H locs hR U hU hW => ⟨by rw [hU]; exact hR.1, fun q hq => C.2.2.2.2.2.2.2.1 q (Nat.le_trans hR.2.1 (by rw [hU] at hq; exact hq)), xK_moved hW.alike C.2.2.2.2.2.1, by rw [hU]; exact tK_kept hW hR.2.2.1 C.2.2.2.2.2.2.2.2.2.2.2⟩⟩
theorem tRc_M (C : tCx X A ss cc own ret rm nL) {b ci N : Nat} {fs : List Value} {Cn : String} {T : u_T} {ty : Nat → FieldType} (K : xCls ci Cn T N ty) (hM : M b = some (.inr (ci, fs))) : tRc X A M Cn b := fun H locs hR => by
  obtain ⟨⟨ws, hP, hD, hm⟩, hS⟩ := hR
  obtain ⟨k0, hk0⟩ := hm _ _ hM
  exact va_recv C.2.2.2.2.2.1 hP K.1 hk0
theorem tRc_S (C : tCx X A ss cc own ret rm nL) {b v n : Nat} {f : Nat → Int32} (hS : Str b v n f A (xXs X) (xXs X).heap) : tRc X A M "java/lang/String" b := fun H locs hR => by
  obtain ⟨cell, h1, h2, h3, -⟩ := hS.1.kept hR.2.2.1
  exact ⟨cell, h1, h2, h3⟩
theorem tw_ran {ls : Array Slot} {H : Heap} {locs : List Loc} {st0 rest : List Value} {a : Array Value} {mc ms : Nat} (hA : ∀ q, A1 q → A q) (hR : tR X A M H locs)
    (hr : va_Run (xXp X) (xXl X) (xXe X) (xXR X) (xXs X) (xXm X) (xXa X) (xXb X) (xXd X) (xXc X) H locs nk nz mc ms (F0 (xXm X) pc ls st0) rest (tQ (xXE X) A1 P a) A1)
    (kk : ∀ v M', P v M' → ∀ H1 locs1, tR X A M' H1 locs1 → W (xXp X) (xXl X) (xXe X) (xXR X) (xXs X) (xXm X) (xXa X) (xXb X) (xXd X) (xXc X) H1 locs1 (nk + mc) (nz + ms) Q (F0 (xXm X) (pc + 3) ls (v.toList ++ rest))) :
    W (xXp X) (xXl X) (xXe X) (xXR X) (xXs X) (xXm X) (xXa X) (xXb X) (xXd X) (xXc X) H locs nk nz Q (F0 (xXm X) pc ls st0) := by
  intro T hT XX
  obtain ⟨v, st₀, t, T', L', h0, X', hL, e1, e2, ⟨v', M', hv, hP, hH, hz, hk⟩, stp⟩ := hr T hT XX
  cases hv
  rw [h0] at hz hk
  have hS := hR.2
  obtain ⟨t2, a1, b1⟩ := kk v M' hP T'.heap (locs ++ L') ⟨by rw [e1]; exact tH_mono hH hA, Nat.le_trans hS.1 (by rw [e1]; exact hz), fun q h1 h2 => by rw [e1, hk q (Nat.lt_of_lt_of_le h1 hS.1) (fun c => h2 (hA q c))]; exact hS.2.1 q h1 h2, fun q hq => by
      rcases List.mem_append.mp hq with h | h
      · exact hS.2.2 q h
      · exact hA _ (hL q h)⟩ T' rfl X'
  exact ⟨t2, stp t2 a1, b1⟩
variable {y : MethodName} {b' : ByteArray} {nL' n idx : Nat} {ret' : Option FieldType} {rm' : Room} {As : List Value}
/-- how the walk goes on behind a call -/
def tKK (X : xX) (A : Nat → Prop) (Q : State → Prop) (nk nz pc : Nat) (L : List (Nat × Value)) (st : List Value) (P : Option Value → tMp → Prop) : Prop := ∀ v M', P v M' → TO X A Q M' nk nz pc L (v.toList ++ st)
theorem tw_callS (C : tCx X A ss cc own ret rm nL) (G : tGo X A M A1 ss1 M1) (hM : tMet (xXl X) (xXE X) y b' nL' ret' rm' As A1 ss1 M1 P) (m : xMth y b' nL' ret' n) (v : Cond.static y ∈ GW) (hl : Cond.methodLink own idx y ∈ GW) (hn : As.length = n) (hroom : rm'.frames + 1 ≤ rm.frames ∧ 8 + (nL' + 11) + rm'.locals ≤ rm.locals) (hz : nk + rm'.cells ≤ rm.cells ∧ nz + rm'.slots ≤ rm.slots) {st0 : List Value} (hst : st0 = As.reverse ++ st) (hcat : (st.map fun v => v.category).sum ≤ 8) (d : decode cc pc = .ok (.invokestatic idx, 3))
    (kk : tKK X A Q (nk + rm'.cells) (nz + rm'.slots) (pc + 3) L st P) : TO X A Q M nk nz pc L st0 := by
  intro H locs hR ls hls
  have hR' : xXR X = rm := C.2.2.2.2.2.2.2.2.2.1
  refine tw_ran G.1 hR (va_runS (n := n) (mc := rm'.cells) (ms := rm'.slots) (rest := st) ⟨C.1, C.2.1, C.2.2.1, C.2.2.2.1, C.2.2.2.2.1⟩ hM (by
      rw [hR']
      exact ⟨callB_of n C.2.2.2.2.1 (GW_in (GW_cons m.1)) rfl rfl rfl (C.2.2.2.2.1 _ m.2.1) (C.2.2.2.2.1 _ hl) m.2.2 hroom, C.2.2.2.2.1 _ v⟩)
    ⟨tPre_blind, fun U hU hW => ⟨rfl, G.2 H locs hR U hU hW⟩⟩ rfl hn (hls.1.trans C.2.2.2.2.2.2.2.2.2.2.1) hst (lv_room hcat) d (by rw [hR']; exact hz)) (fun v M' hP H1 locs1 hR1 => kk v M' hP H1 locs1 hR1 ls hls)
theorem tw_callV (C : tCx X A ss cc own ret rm nL) (G : tGo X A M A1 ss1 M1) {b : Nat} (hM : tMet (xXl X) (xXE X) y b' nL' ret' rm' (.ref b :: As) A1 ss1 M1 P) (m : xMth y b' nL' ret' n) (v : xVir y) (hl : Cond.methodLink own idx y ∈ GW) (hrc : tRc X A M y.cls b) (hn : As.length = n) (hroom : rm'.frames + 1 ≤ rm.frames ∧ 8 + (nL' + 11) + rm'.locals ≤ rm.locals) (hz : nk + rm'.cells ≤ rm.cells ∧ nz + rm'.slots ≤ rm.slots) {st0 : List Value} (hst : st0 = As.reverse ++ .ref b :: st) (hcat : (st.map fun v => v.category).sum ≤ 8) (d : decode cc pc = .ok (.invokevirtual idx, 3))
    (kk : tKK X A Q (nk + rm'.cells) (nz + rm'.slots) (pc + 3) L st P) : TO X A Q M nk nz pc L st0 := by
  intro H locs hR ls hls
  have hR' : xXR X = rm := C.2.2.2.2.2.2.2.2.2.1
  refine tw_ran G.1 hR (va_runV (n := n) (mc := rm'.cells) (ms := rm'.slots) (rest := st) ⟨C.1, C.2.1, C.2.2.1, C.2.2.2.1, C.2.2.2.2.1⟩ hM (by
      rw [hR']
      exact cwV n C.2.2.2.2.1 (GW_in (fun w hw => by
        unfold wsV at hw
        rcases List.mem_append.mp hw with hw | hw
        · simp only [List.mem_cons, List.not_mem_nil, or_false] at hw
          rcases hw with rfl | rfl | rfl | rfl
          · exact hl
          · exact v.1
          · exact v.2
          · exact m.2.1
        · exact GW_cons m.1 w hw)) rfl rfl rfl ⟨rfl, m.2.2⟩ hroom)
    ⟨tPre_blind, hrc H locs hR, fun U hU hW => ⟨rfl, G.2 H locs hR U hU hW⟩⟩ rfl hn (hls.1.trans C.2.2.2.2.2.2.2.2.2.2.1) hst (lv_room hcat) d (by rw [hR']; exact hz)) (fun v M' hP H1 locs1 hR1 => kk v M' hP H1 locs1 hR1 ls hls)
/-- a StringBuilder asked for a method x of its class above: y answers -/
theorem tw_callU (C : tCx X A ss cc own ret rm nL) (G : tGo X A M A1 ss1 M1) {b : Nat} {x : MethodName} {bx : ByteArray} {nLx : Nat} {retx : Option FieldType} (hM : tMet (xXl X) (xXE X) y b' nL' ret' rm' (.ref b :: As) A1 ss1 M1 P) (m : xMth y b' nL' ret' n) (hin : Cond.instanceMethod y ∈ GW) (hsel : va_Nw (.selects "java/lang/StringBuilder" x y) (xXs X)) (hl : Cond.methodLink own idx x ∈ GW) (hsm : Cond.sameMethod x.cls x.cls x.name x.desc ∈ GW) (hix : Cond.instanceMethod x ∈ GW) (hcx : Cond.code x bx nLx retx ∈ GW) (hox : x.cls ≠ "java/lang/invoke/MethodHandle" ∧ x.cls ≠ "java/lang/invoke/VarHandle" ∧ (parseMethodDescriptor x.desc).map (fun d => d.parameters.length) = some n) (hrc : tRc X A M "java/lang/StringBuilder" b) (hn : As.length = n) (hroom : rm'.frames + 1 ≤ rm.frames ∧ 8 + (nL' + 11) + rm'.locals ≤ rm.locals) (hz : nk + rm'.cells ≤ rm.cells ∧ nz + rm'.slots ≤ rm.slots) {st0 : List Value} (hst : st0 = As.reverse ++ .ref b :: st) (hcat : (st.map fun v => v.category).sum ≤ 8) (d : decode cc pc = .ok (.invokevirtual idx, 3))
    (kk : tKK X A Q (nk + rm'.cells) (nz + rm'.slots) (pc + 3) L st P) : TO X A Q M nk nz pc L st0 := by
  intro H locs hR ls hls
  have hR' : xXR X = rm := C.2.2.2.2.2.2.2.2.2.1
  refine tw_ran G.1 hR (va_runU (x := x) (y := y) (owner := x.cls) (n := n) (mc := rm'.cells) (ms := rm'.slots) (rest := st) ⟨C.1, C.2.1, C.2.2.1, C.2.2.2.1, C.2.2.2.2.1⟩ hM (by
      rw [hR']
      refine ⟨⟨rfl, rfl, hroom.1, hroom.2, pay_in C.2.2.2.2.1 (GW_in (GW_cons m.1)), List.mem_cons_self⟩, C.2.2.2.2.1 _ m.1, C.2.2.2.2.1 _ m.2.1, ⟨hox.1, hox.2.1⟩, fun sig h => ?_, C.2.2.2.2.1 _ hl, C.2.2.2.2.1 _ hsm, va_Decl.of (C.2.2.2.2.1 _ hix) (C.2.2.2.2.1 _ hcx), va_Nw.use rfl hsel, C.2.2.2.2.1 _ hin⟩
      have h2 := hox.2.2
      rw [h] at h2
      exact (Option.some.inj h2).symm)
    ⟨tPre_blind, hrc H locs hR, fun U hU hW => ⟨rfl, G.2 H locs hR U hU hW⟩⟩ rfl hn (hls.1.trans C.2.2.2.2.2.2.2.2.2.2.1) hst (lv_room hcat) d (by rw [hR']; exact hz)) (fun v M' hP H1 locs1 hR1 => kk v M' hP H1 locs1 hR1 ls hls)
/-- super.m(..) out of StringBuilder -/
theorem tw_callSU (C : tCx X A ss cc own ret rm nL) (G : tGo X A M A1 ss1 M1) {b : Nat} (hM : tMet (xXl X) (xXE X) y b' nL' ret' rm' (.ref b :: As) A1 ss1 M1 P) (m : xMth y b' nL' ret' n) (hin : Cond.instanceMethod y ∈ GW) (hl : Cond.methodLink own idx y ∈ GW) (hsm : Cond.sameMethod y.cls y.cls y.name y.desc ∈ GW) (hsu : Cond.superclass own y.cls ∈ GW) (hno : y.name ≠ "<init>") (hrc : tRc X A M "java/lang/StringBuilder" b) (hn : As.length = n) (hroom : rm'.frames + 1 ≤ rm.frames ∧ 8 + (nL' + 11) + rm'.locals ≤ rm.locals) (hz : nk + rm'.cells ≤ rm.cells ∧ nz + rm'.slots ≤ rm.slots) {st0 : List Value} (hst : st0 = As.reverse ++ .ref b :: st) (hcat : (st.map fun v => v.category).sum ≤ 8) (d : decode cc pc = .ok (.invokespecial idx, 3))
    (kk : tKK X A Q (nk + rm'.cells) (nz + rm'.slots) (pc + 3) L st P) : TO X A Q M nk nz pc L st0 := by
  intro H locs hR ls hls
  have hR' : xXR X = rm := C.2.2.2.2.2.2.2.2.2.1
  refine tw_ran G.1 hR (va_runSU (C := "java/lang/StringBuilder") (n := n) (mc := rm'.cells) (ms := rm'.slots) (rest := st) (C.2.2.2.2.2.1.1 12 _ cls_J4.1).2 ⟨C.1, C.2.1, C.2.2.1, C.2.2.2.1, C.2.2.2.2.1⟩ hM (by
      rw [hR']
      refine ⟨⟨rfl, rfl, hroom.1, hroom.2, pay_in C.2.2.2.2.1 (GW_in (GW_cons m.1)), List.mem_cons_self⟩, C.2.2.2.2.1 _ hl, C.2.2.2.2.1 _ hsm, C.2.2.2.2.1 _ hsu, C.2.2.2.2.1 _ hin, C.2.2.2.2.1 _ m.2.1, C.2.2.2.2.1 _ m.1, hno, fun sig h => ?_⟩
      have h2 := m.2.2.2.2
      rw [h] at h2
      exact (Option.some.inj h2).symm)
    ⟨tPre_blind, hrc H locs hR, fun U hU hW => ⟨rfl, G.2 H locs hR U hU hW⟩⟩ rfl hn (hls.1.trans C.2.2.2.2.2.2.2.2.2.2.1) hst (lv_room hcat) d (by rw [hR']; exact hz)) (fun v M' hP H1 locs1 hR1 => kk v M' hP H1 locs1 hR1 ls hls)
theorem tw_callI (C : tCx X A ss cc own ret rm nL) (G : tGo X A M A1 ss1 M1) {b : Nat} (hM : tMet (xXl X) (xXE X) y b' nL' none rm' (.ref b :: As) A1 ss1 M1 P) (m : xMth y b' nL' none n) (hi : y.name = "<init>") (hin : Cond.instanceMethod y ∈ GW) (hl : Cond.methodLink own idx y ∈ GW) (hn : As.length = n) (hroom : rm'.frames + 1 ≤ rm.frames ∧ 8 + (nL' + 11) + rm'.locals ≤ rm.locals) (hz : nk + rm'.cells ≤ rm.cells ∧ nz + rm'.slots ≤ rm.slots) {st0 : List Value} (hst : st0 = As.reverse ++ .ref b :: st) (hcat : (st.map fun v => v.category).sum ≤ 8) (d : decode cc pc = .ok (.invokespecial idx, 3))
    (kk : tKK X A Q (nk + rm'.cells) (nz + rm'.slots) (pc + 3) L st P) : TO X A Q M nk nz pc L st0 := by
  intro H locs hR ls hls
  have hR' : xXR X = rm := C.2.2.2.2.2.2.2.2.2.1
  refine tw_ran G.1 hR (va_runI (n := n) (mc := rm'.cells) (ms := rm'.slots) (rest := st) ⟨C.1, C.2.1, C.2.2.1, C.2.2.2.1, C.2.2.2.2.1⟩ hM (by
      rw [hR']
      exact cwI n C.2.2.2.2.1 (GW_in (GW_cons m.1)) rfl rfl rfl (C.2.2.2.2.1 _ m.2.1) (C.2.2.2.2.1 _ hl) (C.2.2.2.2.1 _ hin) hi m.2.2 hroom)
    ⟨tPre_blind, fun U hU hW => ⟨rfl, G.2 H locs hR U hU hW⟩⟩ rfl hn (hls.1.trans C.2.2.2.2.2.2.2.2.2.2.1) hst (lv_room hcat) d (by rw [hR']; exact hz)) (fun v M' hP H1 locs1 hR1 => kk v M' hP H1 locs1 hR1 ls hls)
theorem tw_objI (C : tCx X A ss cc own ret rm nL) {index a : Nat} (hlink : Cond.methodLink own index Lib.objectInit ∈ GW) (hf : 1 ≤ rm.frames) (hcat : (st.map fun v => v.category).sum ≤ 8) (hloc : 20 ≤ rm.locals) (d : decode cc pc = .ok (.invokespecial index, 3)) (kk : TO X A Q M nk nz (pc + 3) L st) : TO X A Q M nk nz pc L (.ref a :: st) := by
  intro H locs hR ls hl
  have hRm : xXR X = rm := C.2.2.2.2.2.2.2.2.2.1
  have hlr := lv_room (m := xXm X) (pc := pc) (ls := ls) (rest := .ref a :: st) hcat
  refine W.objInit C.1 C.2.1 C.2.2.2.1 (C.2.2.2.2.1 _ hlink) (C.2.2.2.2.1 _ wd86) (C.2.2.2.2.1 _ wd87) rfl ?_ rfl d (by rw [hRm]; exact hf) (by rw [hRm]; omega) (kk H locs hR ls hl)
  rw [C.2.2.1]
  exact hl.1.trans C.2.2.2.2.2.2.2.2.2.2.1
theorem tw_end {v : Option Value} (hP : P v M) {H : Heap} {locs : List Loc} (hR : tR X A M H locs) : ∀ t : State, t.heap = H → (xXs X).WarmedH t.vm → tQ (xXE X) A P (xXa X) (xXs X) (.returned v) t := fun t ht _ => ⟨v, M, rfl, hP, by rw [ht]; exact hR.1, hR.2.F ht⟩
theorem tw_iret (C : tCx X A ss cc own ret rm nL) {v : Int} (hP : P (some (iV v)) M) (hr : ret = some .int) (hz : nk ≤ rm.cells ∧ nz ≤ rm.slots) (d : decode cc pc = .ok (.ireturn, 1)) : TO X A (tQf X A P rm) M nk nz pc L [iV v] := fun H locs hR ls hl =>
  W.widen hz.1 hz.2 (W.iret C.1 C.2.1 (C.2.2.2.2.2.2.2.2.1.trans hr) (tw_end hP hR) hR.2.2.2 d C.2.2.2.2.2.2.1)
theorem tw_zret (C : tCx X A ss cc own ret rm nL) {ty : FieldType} {v : Int} (hP : P (some (iV v)) M) (hr : ret = some ty) (hn : narrow ty (iV v) = iV v) (hz : nk ≤ rm.cells ∧ nz ≤ rm.slots) (d : decode cc pc = .ok (.ireturn, 1)) : TO X A (tQf X A P rm) M nk nz pc L [iV v] := fun H locs hR ls hl =>
  W.widen hz.1 hz.2 (W.zret C.1 C.2.1 (C.2.2.2.2.2.2.2.2.1.trans hr) hn (tw_end hP hR) hR.2.2.2 d C.2.2.2.2.2.2.1)
theorem tw_vret (C : tCx X A ss cc own ret rm nL) (hP : P none M) (hr : ret = none) (hz : nk ≤ rm.cells ∧ nz ≤ rm.slots) (d : decode cc pc = .ok (.return_, 1)) : TO X A (tQf X A P rm) M nk nz pc L [] := fun H locs hR ls hl =>
  W.widen hz.1 hz.2 (W.vret C.1 C.2.1 (C.2.2.2.2.2.2.2.2.1.trans hr) (tw_end hP hR) hR.2.2.2 d C.2.2.2.2.2.2.1)
theorem tw_aret (C : tCx X A ss cc own ret rm nL) {a : Nat} {rt : FieldType} (hP : P (some (.ref a)) M) (hr : ret = some rt) (hrt : (∃ n, rt = .object n) ∨ ∃ t, rt = .array t) (hz : nk ≤ rm.cells ∧ nz ≤ rm.slots) (d : decode cc pc = .ok (.areturn, 1)) : TO X A (tQf X A P rm) M nk nz pc L [.ref a] := fun H locs hR ls hl =>
  W.widen hz.1 hz.2 (W.aret C.1 C.2.1 (C.2.2.2.2.2.2.2.2.1.trans hr) hrt (Or.inr ⟨_, rfl⟩) (tw_end hP hR) hR.2.2.2 d C.2.2.2.2.2.2.1)
end TCALLS
