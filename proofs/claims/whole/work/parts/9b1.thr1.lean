/-! THROWERS: contracts of methods that return or throw: the world stays, one cell comes -/
def XDl : List MethodName := [⟨"java/lang/RuntimeException", "<init>", "(Ljava/lang/String;)V"⟩, ⟨"java/lang/Exception", "<init>", "(Ljava/lang/String;)V"⟩, ⟨"java/lang/Throwable", "<init>", "(Ljava/lang/String;)V"⟩]
def XCl : List String := ["java/lang/IllegalStateException", "java/lang/IndexOutOfBoundsException"]
abbrev XNl : List String := ["java/lang/RuntimeException", "java/lang/Exception"]
/-- what else a throw asks of the launch -/
def XT (A : Nat → Prop) (U : State) (H : Heap) : Prop :=
  vx_Zq Bundle.tN "UNASSIGNED_STACK" Bundle.steD A U H ∧ vx_Zq Bundle.tN "SUPPRESSED_SENTINEL" Bundle.listD A U H ∧ (∀ x ∈ XDl, va_Nw (.declares x) U) ∧ (∀ q ∈ XCl, va_Nw (.castable q q) U) ∧ va_Nc "java/lang/IndexOutOfBoundsException" "java/lang/IllegalStateException" U
theorem XT_kept {A : Nat → Prop} {s U : State} {H H1 : Heap} (hW : s.WarmedH U.vm) (hq : ∀ a : Nat, a < H.size → ¬ A a → H1[a]? = H[a]?) (h : XT A s H) : XT A U H1 := by
  obtain ⟨h1, h2, h3, h4, h5⟩ := h
  have hv := hW.alike
  exact ⟨(vx_Zq.moved hv h1).kept hq, (vx_Zq.moved hv h2).kept hq, fun x hx => va_Nw.warmD hW (h3 x hx), fun q hx => va_Nw.warmC hW (h4 q hx), va_Nc.moved hv h5⟩
def xPreT (E : xE) (w : xW) (σ : xS) (U : State) : Prop := xPre E w σ U ∧ XT (xA E) U U.heap
abbrev xR : Type := (Option Value × xS) ⊕ String
def xQT (E : xE) (w : xW) (r : xR) : Array Value → State → Outcome → State → Prop := fun a st o t => ∃ v, r = .inl v ∧ xQ E w v a st o t
def xXT (E : xE) (w : xW) (σ : xS) (r : xR) : String → State → State → Prop := fun e st t => r = .inr e ∧ xPost E w σ t ∧ va_F (xA E) st t
def xMeX (l : Launch) (E : xE) (y : MethodName) (b : ByteArray) (nL : Nat) (ret : Option FieldType) (rm : Room) (as : List Value) (w : xW) (σ : xS) (r : xR) : Prop := vx_Met l y (.code y b nL ret :: GW) rm (va_Pc as (xPreT E w σ)) (xQT E w r) (xXT E w σ r) rm.cells rm.slots (xA E)
abbrev xQfT (X : xX) (w : xW) (σ : xS) (rm : Room) (r : xR) : State → Prop := vx_MQ (xXb X) (xQT (xXE X) w r) (xXT (xXE X) w σ r) (xXa X) (xXs X) rm.cells rm.slots (xA (xXE X))
theorem xMeX.of {l : Launch} {E : xE} {y : MethodName} {b : ByteArray} {nL : Nat} {ret : Option FieldType} {rm : Room} {as : List Value} {w : xW} {σ : xS} {r : xR} (hy : plainName y.cls = true) (hn : (lg_sl as).length ≤ nL)
    (k : ∀ X : xX, E = xXE X → xXk X = 0 → xXz X = 0 → xXl X = l → (∀ x ∈ (xXc X).exceptionTable.toList, False) → xCx X b y.cls ret rm nL → XT (xA E) (xXs X) (xXs X).heap → WO X (xQfT X w σ rm) w σ 0 (lv_args 0 as) [] (some r)) : xMeX l E y b nL ret rm as w σ r := by
  refine vx_ofW (cc := b) (maxL := nL) (ret := ret) hy rfl ?_
  intro p e s m args below meth c s₁ B hml ht hv
  obtain ⟨rfl, ⟨⟨hP, hsz, hK⟩, hNw, hAm, hAmC⟩, hXT⟩ := hv
  have hts := atoms_spec (ws := .code y b nL ret :: GW) B.pre
  by_cases hz : E.2.2 ≤ s.heap.size
  · have C : xCx (p, l, e, rm, s, m, as.toArray, below, meth, c, E, nL, 0, 0) b y.cls ret rm nL := ⟨B.exec, B.bytes, hml, findClass_of_methodNamed B.named, fun w hw => hts w (List.mem_cons_of_mem _ hw), hK, B.notSynchronized, hz, B.returns, rfl, rfl, ⟨Nat.zero_le _, Nat.zero_le _⟩, hNw, hAm, hAmC⟩
    have hl := lv_entry as hn
    rw [lg_entry_eq]
    exact k _ rfl rfl rfl rfl ht C hXT r rfl s.heap [] ⟨hP, hsz, va_S.rf⟩ _ hl
  · exact absurd (Nat.le_trans (Nat.le_add_right _ _) hsz.1) hz
section THROWS
variable {ρ : Type} {X : xX} {cc : ByteArray} {own : String} {ret : Option FieldType} {rm : Room} {nL : Nat} {w : xW} {σ : xS} {pc : Nat} {L : List (Nat × Value)} {st : List Value} {o : Option ρ}
theorem xt_iret (C : xCx X cc own ret rm nL) {v : Int} (hr : ret = some .int) (d : decode cc pc = .ok (.ireturn, 1)) : WO X (xQfT X w σ rm) w σ pc L [iV v] (some (.inl (some (iV v), σ))) := by
  intro r h H locs hR ls hl
  cases h
  have hf := C.2.2.2.2.2.2.2.2.2.2.2.1
  refine vx_ret (W.widen (k := rm.cells) (n := rm.slots) hf.1 hf.2 ?_)
  exact W.iret C.1 C.2.1 (C.2.2.2.2.2.2.2.2.1.trans hr) (fun t ht hW => ⟨_, rfl, xQ_end C hR t ht hW⟩) hR.2.2.2.2 d C.2.2.2.2.2.2.1
theorem xt_throw (C : xCx X cc "BakeryNight" ret rm nL) (hlt : (xXl X).stackTraces = false) (ht : ∀ x ∈ (xXc X).exceptionTable.toList, False) (hT : XT (xA (xXE X)) (xXs X) (xXs X).heap) (hE : (xXE X).2.1.2.2 9 0 ≠ 0) {cls text : String} {ik is ic : Nat} (hcls : cls ∈ XCl) (hx : (is, text) ∈ SXl)
    (hk : Cond.classLink "BakeryNight" ik cls ∈ GW) (hini : Cond.initialized cls ∈ GW) (hat : ∀ w ∈ (vx_atS "BakeryNight" ic cls XNl).filter goodWord, w ∈ GW) (hbad : ∀ w ∈ (vx_atS "BakeryNight" ic cls XNl).filter (fun w => !goodWord w), w ∈ Jvm.Cond.castable cls cls :: XDl.map Jvm.Cond.declares) (hgood : (Cond.classLink "BakeryNight" ik cls :: Cond.initialized cls :: vx_atS "BakeryNight" ic cls XNl).all vx_ot = true)
    (hroom : 6 ≤ rm.frames ∧ 82 ≤ rm.locals ∧ xXk X + 1 ≤ rm.cells ∧ xXz X + 6 ≤ rm.slots)
    (d0 : decode cc pc = .ok (.new ik, 3)) (d3 : decode cc (pc + 3) = .ok (.dup, 1)) (d4 : decode cc (pc + 4) = .ok (.ldc is, 2)) (d6 : decode cc (pc + 6) = .ok (.invokespecial ic, 3)) (d9 : decode cc (pc + 9) = .ok (.athrow, 1)) : WO X (xQfT X w σ rm) w σ pc L [] (some (.inr cls)) := by
  intro r h H locs hR ls hl
  cases h
  obtain ⟨t1, t2, t3, t4, t5⟩ := hT
  have hR' : xXR X = rm := C.2.2.2.2.2.2.2.2.2.1
  have hfit : Bundle.fit cls = true := by
    unfold XCl at hcls
    simp only [List.mem_cons, List.not_mem_nil, or_false] at hcls
    rcases hcls with rfl | rfl <;> decide
  have hKW : KW (xXE X).2.1.2.2 (xA (xXE X)) (xXs X) (xXs X).heap := C.2.2.2.2.2.2.2.2.2.2.2.2.2.1
  have hw : ∀ w ∈ vx_atS "BakeryNight" ic cls XNl, w.before (xXa X) (xXs X) = true := vx_hat (B := Jvm.Cond.castable cls cls :: XDl.map Jvm.Cond.declares) (fun w hw => C.2.2.2.2.1 w (hat w hw)) hbad (fun w hw => by
    rcases List.mem_cons.mp hw with rfl | hw
    · exact va_Nw.use rfl (t4 cls hcls)
    · obtain ⟨x, hx1, rfl⟩ := List.mem_map.mp hw
      exact va_Nw.use rfl (t3 x hx1))
  refine vx_throwS (own := "BakeryNight") (cls := cls) (text := text) (names := XNl) (ik := ik) (is := is) (ic := ic) (sa := (xXE X).2.1.2.2 4 is) (A := xA (xXE X)) C.1 C.2.1 hlt C.2.2.2.1 hfit (by decide) (C.2.2.2.2.1 _ hk) (C.2.2.2.2.1 _ hini) (hKW.2.2.2.2.2.2.2.2.2.2 _ hx) hw (fun w hw => List.all_eq_true.mp hgood w hw) t1 t2 hR.2.2 (hl.1.trans (C.2.2.2.2.2.2.2.2.2.2.1.trans C.2.2.1.symm)) d0 d3 d4 d6 d9 (fun x hx => (ht x hx).elim) ?_ ?_ ?_ ?_ C.2.2.2.2.2.2.1 ?_ hR.2.2.2.2 hroom.2.2.1 hroom.2.2.2
  · rw [hR']
    show 2 + 3 < rm.frames
    omega
  · rw [hR']
    show 0 + (13 * (2 + 1) + 43) ≤ rm.locals
    omega
  · rw [hR']; exact hroom.2.2.1
  · rw [hR']; exact hroom.2.2.2
  · intro t hv hz hq
    refine ⟨rfl, ⟨hR.1.kept fun k q hk => hq q.1 (vx_lt hR.1 hk), ⟨Nat.le_trans hR.2.1.1 hz, fun h0 => absurd h0 hE⟩, xK_moved hv C.2.2.2.2.2.1⟩, Nat.le_trans hR.2.2.1 hz, fun q h1 h2 => ?_⟩
    exact (hq q (Nat.lt_of_lt_of_le h1 hR.2.2.1)).trans (hR.2.2.2.1 q h1 h2)
end THROWS
