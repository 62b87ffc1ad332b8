/-! THROWERS: calls of them, what catches, methods with a table of their own -/
/-- q thrown over the frame -/
def XH {ρ : Type} (X : xX) (Qf : ρ → State → Prop) (w : xW) (σ : xS) (pc : Nat) (L : List (Nat × Value)) (st : List Value) (e : String) (o : Option ρ) : Prop :=
  ∀ r0, o = some r0 → ∀ (H : Heap) (locs : List Loc), xRel (xXE X) w σ (xXs X).heap H locs → ∀ ls : Array Slot, lv_has ls (xXn X) L → ∀ (q : Addr) (ce : Cell), H[q]? = some ce → ce.vm = .none → (xXs X).vm.findClass e = some ce.cls →
    vx_W (xXp X) (xXl X) (xXe X) (xXR X) (xXs X) (xXm X) (xXa X) (xXb X) (xXd X) (xXc X) H locs (xXk X) (xXz X) (Qf r0) (F0 (xXm X) pc ls st) q
theorem xPreT_blind {E : xE} {w : xW} {σ : xS} {as : List Value} : FrameBlind (va_Pc as (xPreT E w σ)) := fun a U g mk q => by
  obtain ⟨q0, ⟨q1, q2, q3⟩, q4⟩ := q
  have hW : U.WarmedH (U.calling g mk a).vm := State.WarmedH.refl U
  have h := xPre_blind (E := E) (w := w) (σ := σ) (as := as) a U g mk ⟨q0, ⟨q1, q2, q3⟩⟩
  exact ⟨h.1, h.2, XT_kept (s := U) (U := U.calling g mk a) (H := U.heap) hW (fun _ _ _ => rfl) q4⟩
section THROWS2
variable {ρ : Type} {X : xX} {Qf : ρ → State → Prop} {cc : ByteArray} {own : String} {ret : Option FieldType} {rm : Room} {nL : Nat} {w : xW} {σ : xS} {pc k z : Nat} {L : List (Nat × Value)} {st : List Value} {o : Option ρ}
theorem xPreT_of {H : Heap} {locs : List Loc} (C : xCx X cc own ret rm nL) (hT : XT (xA (xXE X)) (xXs X) (xXs X).heap) (hR : xRel (xXE X) w σ (xXs X).heap H locs) : ∀ U : State, U.heap = H → (xXs X).WarmedH U.vm → xPreT (xXE X) w σ U := fun U hU hW => ⟨xPre_of C hR U hU hW, XT_kept hW (fun a ha hA => by rw [hU]; exact hR.2.2.2.1 a ha hA) hT⟩
theorem x_callVT {y : MethodName} {b' : ByteArray} {nL' n idx k0 ci N : Nat} {ret' : Option FieldType} {rm' : Room} {As : List Value} {T : u_T} {ty : Nat → FieldType} {r : xR} (Cg : xCg X cc own ret rm nL) (hkr : k + rm'.cells ≤ rm.cells ∧ z + rm'.slots ≤ rm.slots) (hT : XT (xA (xXE X)) (xXs X) (xXs X).heap) (hM : xMeX (xXl X) (xXE X) y b' nL' ret' rm' (.ref (xqa (xXE X).2.2 k0) :: As) w σ r) (m : xMth y b' nL' ret' n) (v : xVir y) (hl : Cond.methodLink own idx y ∈ GW) (K : xCls ci y.cls T N ty) (A : xAt w k0 (20 + ci) N) (hn : As.length = n) (hroom : rm'.frames + 1 ≤ rm.frames ∧ 8 + (nL' + 11) + rm'.locals ≤ rm.locals) {st0 : List Value} (hst : st0 = As.reverse ++ .ref (xqa (xXE X).2.2 k0) :: st) (hcat : (st.map fun v => v.category).sum ≤ 8) (d : decode cc pc = .ok (.invokevirtual idx, 3))
    (k1 : ∀ v, r = .inl v → WO (xat X (k + rm'.cells) (z + rm'.slots)) Qf w v.2 (pc + 3) L (v.1.toList ++ st) o)
    (k2 : ∀ e, r = .inr e → XH (xat X (k + rm'.cells) (z + rm'.slots)) Qf w σ pc L st e o) : WO (xat X k z) Qf w σ pc L st0 o := by
  intro r0 h H locs hR ls hls
  have C := Cg k z (by omega) (by omega)
  have hR' : xXR X = rm := C.2.2.2.2.2.2.2.2.2.1
  have hr := vx_runV (n := n) (mc := rm'.cells) (ms := rm'.slots) (rest := st) (g := F0 (xXm X) pc ls st0) (H := H) (locs := locs) (cells := k) (slots := z) (R := xXR X) (l := xXl X) (e := xXe X) (below := xXb X) (meth := xXd X) (C := y.cls) (index := idx) ⟨C.1, C.2.1, C.2.2.1, C.2.2.2.1, C.2.2.2.2.1⟩ hM (by
      rw [hR']
      exact cwV n C.2.2.2.2.1 (GW_in (fun w hw => by
        unfold wsV at hw
        rcases List.mem_append.mp hw with hw | hw
        · simp only [List.mem_cons, List.not_mem_nil, or_false] at hw
          rcases hw with rfl | rfl | rfl | rfl
          · exact hl
          · exact v.1
          · exact v.2
          · exact m.2.1
        · exact GW_cons m.1 w hw)) rfl rfl rfl ⟨rfl, m.2.2⟩ hroom)
    ⟨xPreT_blind, va_recv C.2.2.2.2.2.1 hR.1 K.1 ((xws_get A.1).trans (by rw [xC_obj A.2])), fun U hU hW => ⟨rfl, xPreT_of C hT hR U hU hW⟩⟩ rfl hn (hls.1.trans C.2.2.2.2.2.2.2.2.2.2.1) hst (lv_room hcat) d (by show k + _ ≤ (xXR X).cells ∧ z + _ ≤ (xXR X).slots; rw [hR']; exact hkr)
  intro S hS XX
  have keep : ∀ {st₀ t S' : State} {L' : List Loc}, st₀.heap = H → S'.heap = t.heap → (∀ q ∈ L', xA (xXE X) q.base) → va_F (xA (xXE X)) st₀ t → va_S (xA (xXE X)) (xXs X).heap S'.heap (locs ++ L') := by
    intro st₀ t S' L' h0 e1 hL hF
    obtain ⟨hz, hk⟩ := hF
    rw [h0] at hz hk
    have hSS := hR.2.2
    exact ⟨Nat.le_trans hSS.1 (by rw [e1]; exact hz), fun q h1 h2 => by rw [e1, hk q (Nat.lt_of_lt_of_le h1 hSS.1) h2]; exact hSS.2.1 q h1 h2, fun q hq => by
      rcases List.mem_append.mp hq with h | h
      · exact hSS.2.2 q h
      · exact hL q h⟩
  rcases hr S hS XX with ⟨v, st₀, t, S', L', h0, X', hL, e1, e2, ⟨v', hv', hv, ⟨hp1, hp2, hp3⟩, hF⟩, stp⟩ | ⟨q, st₀, t, S', L', E', ce, h0, X', hL, e1, e2, ⟨hv', ⟨hp1, hp2, hp3⟩, hF⟩, hce, hcv, hcl, stp⟩
  · cases hv
    obtain ⟨t2, a1, b1⟩ := k1 v' hv' r0 h S'.heap (locs ++ L') ⟨by rw [e1]; exact hp1, by rw [e1]; exact hp2, keep h0 e1 hL hF⟩ ls hls S' rfl X'
    exact ⟨t2, stp t2 a1, b1⟩
  · obtain ⟨t2, a1, b1⟩ := k2 E' hv' r0 h S'.heap (locs ++ L') ⟨by rw [e1]; exact hp1, by rw [e1]; exact hp2, keep h0 e1 hL hF⟩ ls hls q ce (by rw [e1]; exact hce) hcv hcl S' rfl X'
    exact ⟨t2, stp.trans a1, b1⟩
theorem x_catch {e name : String} (C : xCx X cc own ret rm nL) (pre : List ExceptionTableEntry) (x : ExceptionTableEntry) (suf : List ExceptionTableEntry) (hsplit : (xXc X).exceptionTable.toList = pre ++ x :: suf)
    (hpass : ∀ z ∈ pre, covers z pc = false ∨ (z.catchType ≠ 0 ∧ ∃ nm : String, (Cond.classLink own z.catchType nm) ∈ GW ∧ va_Nc e nm (xXs X))) (hx : covers x pc = true) (h0 : x.catchType ≠ 0) (hlink : Cond.classLink own x.catchType name ∈ GW) (hcast : va_Nw (.castable e name) (xXs X))
    (kk : ∀ q : Nat, WO X Qf w σ x.handlerPc L [.ref q] o) : XH X Qf w σ pc L st e o := by
  intro r0 h H locs hR ls hls q ce hce hcv hcl
  refine vx_catch (own := own) (name := name) (E := e) (ce := ce) C.2.2.2.1 pre x suf hsplit (fun z hz => ?_) hx h0 (C.2.2.2.2.1 _ hlink) (va_Nw.use rfl hcast) hce hcv hcl (kk q r0 h H locs hR ls hls)
  rcases hpass z hz with h | ⟨h1, nm, h2, h3⟩
  · exact Or.inl h
  · exact Or.inr ⟨h1, nm, C.2.2.2.2.1 _ h2, h3⟩
end THROWS2
/-- a contract of a method with a table of its own, that catches all -/
def xMeW (l : Launch) (E : xE) (y : MethodName) (b : ByteArray) (nL : Nat) (ret : Option FieldType) (hh : List (Nat × Nat × Nat × Nat)) (rm : Room) (as : List Value) (w : xW) (σ : xS) (r : Option Value × xS) : Prop := Met l y (.codeWith y b nL ret hh :: GW) rm (va_Pc as (xPreT E w σ)) (xQ E w r) rm.cells rm.slots (xA E)
abbrev xQfW (X : xX) (w : xW) (rm : Room) (r : Option Value × xS) : State → Prop := MQ (xXb X) (xQ (xXE X) w r) (xXa X) (xXs X) rm.cells rm.slots (xA (xXE X))
theorem xMeW.of {l : Launch} {E : xE} {y : MethodName} {b : ByteArray} {nL : Nat} {ret : Option FieldType} {hh : List (Nat × Nat × Nat × Nat)} {rm : Room} {as : List Value} {w : xW} {σ : xS} {r : Option Value × xS} (hy : plainName y.cls = true) (hn : (lg_sl as).length ≤ nL)
    (k : ∀ X : xX, E = xXE X → xXl X = l → (xXc X).exceptionTable.toList = tableOf hh → xCg X b y.cls ret rm nL → XT (xA E) (xXs X) (xXs X).heap → WO (xat X 0 0) (xQfW X w rm) w σ 0 (lv_args 0 as) [] (some r)) : xMeW l E y b nL ret hh rm as w σ r := by
  refine va_MetW (cc := b) (maxL := nL) (ret := ret) (hh := hh) hy rfl ?_
  intro p e s m args below meth c s₁ B hml hv
  obtain ⟨rfl, ⟨⟨hP, hsz, hK⟩, hNw, hAm, hAmC⟩, hXT⟩ := hv
  have hts := atoms_spec (ws := .codeWith y b nL ret hh :: GW) B.pre
  have htab : c.exceptionTable.toList = tableOf hh := vx_table (x := y) B (hts _ List.mem_cons_self)
  by_cases hz : E.2.2 ≤ s.heap.size
  · have C : xCx (p, l, e, rm, s, m, as.toArray, below, meth, c, E, nL, 0, 0) b y.cls ret rm nL := ⟨B.exec, B.bytes, hml, findClass_of_methodNamed B.named, fun w hw => hts w (List.mem_cons_of_mem _ hw), hK, B.notSynchronized, hz, B.returns, rfl, rfl, ⟨Nat.zero_le _, Nat.zero_le _⟩, hNw, hAm, hAmC⟩
    have hl := lv_entry as hn
    rw [lg_entry_eq]
    exact k (p, l, e, rm, s, m, as.toArray, below, meth, c, E, nL, 0, 0) rfl rfl htab (xCg_of C) hXT r rfl s.heap [] ⟨hP, hsz, va_S.rf⟩ _ hl
  · exact absurd (Nat.le_trans (Nat.le_add_right _ _) hsz.1) hz
theorem x_iretG {X : xX} {cc : ByteArray} {own : String} {rm : Room} {nL : Nat} {w : xW} {σ : xS} {pc k z : Nat} {L : List (Nat × Value)} {v : Int} (Cg : xCg X cc own (some .int) rm nL) (hk : k ≤ rm.cells) (hz : z ≤ rm.slots) (d : decode cc pc = .ok (.ireturn, 1)) : WO (xat X k z) (xQfW X w rm) w σ pc L [iV v] (some (some (iV v), σ)) := by
  intro r h H locs hR ls hl
  cases h
  refine W.widen (k := rm.cells) (n := rm.slots) hk hz ?_
  have C := Cg rm.cells rm.slots (Nat.le_refl _) (Nat.le_refl _)
  exact W.iret C.1 C.2.1 (C.2.2.2.2.2.2.2.2.1) (xQ_end C hR) hR.2.2.2.2 d C.2.2.2.2.2.2.1
/-- a static method with a table of its own called -/
theorem x_callSW {ρ : Type} {X : xX} {Qf : ρ → State → Prop} {cc : ByteArray} {own : String} {ret : Option FieldType} {rm : Room} {nL : Nat} {w : xW} {σ : xS} {pc k z : Nat} {L : List (Nat × Value)} {st : List Value} {o : Option ρ} {y : MethodName} {b' : ByteArray} {nL' n idx : Nat} {ret' : Option FieldType} {hh : List (Nat × Nat × Nat × Nat)} {rm' : Room} {As : List Value} {r : Option Value × xS} (Cg : xCg X cc own ret rm nL) (hkr : k + rm'.cells ≤ rm.cells ∧ z + rm'.slots ≤ rm.slots) (hT : XT (xA (xXE X)) (xXs X) (xXs X).heap) (hM : xMeW (xXl X) (xXE X) y b' nL' ret' hh rm' As w σ r) (hc : Cond.codeWith y b' nL' ret' hh ∈ GW) (hi : Cond.initialized y.cls ∈ GW) (hd : y.cls ≠ "java/lang/invoke/MethodHandle" ∧ y.cls ≠ "java/lang/invoke/VarHandle" ∧ (parseMethodDescriptor y.desc).map (fun d => d.parameters.length) = some n) (v : Cond.static y ∈ GW) (hl : Cond.methodLink own idx y ∈ GW) (hn : As.length = n) (hroom : rm'.frames + 1 ≤ rm.frames ∧ 8 + (nL' + 11) + rm'.locals ≤ rm.locals) {st0 : List Value} (hst : st0 = As.reverse ++ st) (hcat : (st.map fun v => v.category).sum ≤ 8) (d : decode cc pc = .ok (.invokestatic idx, 3))
    (kk : WO (xat X (k + rm'.cells) (z + rm'.slots)) Qf w r.2 (pc + 3) L (r.1.toList ++ st) o) : WO (xat X k z) Qf w σ pc L st0 o := by
  intro r0 h H locs hR ls hls
  have C := Cg k z (by omega) (by omega)
  have hR' : xXR X = rm := C.2.2.2.2.2.2.2.2.2.1
  refine x_ran C hR hls h (r := r) (vx_runSW (n := n) (mc := rm'.cells) (ms := rm'.slots) (rest := st) (hh := hh) ⟨C.1, C.2.1, C.2.2.1, C.2.2.2.1, C.2.2.2.2.1⟩ hM (by
      show vx_CSW (xXR X) _ _ _ _ _ _ _ _ _ _ _ _ _ _
      rw [hR']
      exact vx_cwSW n C.2.2.2.2.1 (GW_in (fun w hw => by
        unfold va_wsS at hw
        rcases List.mem_append.mp hw with hw | hw
        · simp only [List.mem_cons, List.not_mem_nil, or_false] at hw
          rcases hw with rfl | rfl | rfl
          · exact hl
          · exact v
          · exact hi
        · rcases List.mem_cons.mp hw with rfl | hw
          · exact hc
          · exact hw)) rfl rfl rfl hd hroom)
    ⟨xPreT_blind, fun U hU hW => ⟨rfl, xPreT_of C hT hR U hU hW⟩⟩ rfl hn (hls.1.trans C.2.2.2.2.2.2.2.2.2.2.1) hst (lv_room hcat) d (by show k + _ ≤ (xXR X).cells ∧ z + _ ≤ (xXR X).slots; rw [hR']; exact hkr)) (fun H1 locs1 hR1 => ?_)
  exact kk r0 h H1 locs1 hR1 ls hls
