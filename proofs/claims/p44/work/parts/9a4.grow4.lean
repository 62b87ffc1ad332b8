/-! WORLDS THAT GROW: rows of rows; words for arrays -/
def hM (h : Nat → Nat → Bool) (k0 n : Nat) : Nat → Nat → Bool := fun a i => (decide (a = k0) && decide (i < n)) || h a i
theorem hM_ne {h : Nat → Nat → Bool} {k0 n a i : Nat} (e : ¬ (a = k0 ∧ i < n)) : hM h k0 n a i = h a i := by
  unfold hM
  by_cases c : a = k0
  · by_cases d : i < n
    · exact absurd ⟨c, d⟩ e
    · simp [d]
  · simp [c]
theorem hM_eq {h : Nat → Nat → Bool} {k0 n i : Nat} (e : i < n) : hM h k0 n k0 i = true := by simp [hM, e]
theorem hM_0 {h : Nat → Nat → Bool} {k0 : Nat} : hM h k0 0 = h := by
  funext a i
  exact hM_ne (fun q => Nat.not_lt_zero _ q.2)
theorem hM_S {h : Nat → Nat → Bool} {k0 n : Nat} : hS (hM h k0 n) k0 n = hM h k0 (n + 1) := by
  funext a i
  by_cases c : a = k0
  · subst c
    by_cases d : i = n
    · subst d
      rw [hS_eq, hM_eq (Nat.lt_succ_self _)]
    · rw [hS_ne (fun q => d q.2)]
      by_cases f : i < n
      · rw [hM_eq f, hM_eq (by omega)]
      · rw [hM_ne (fun q => f q.2), hM_ne (fun q => by omega)]
  · rw [hS_ne (fun q => c q.1), hM_ne (fun q => c q.1), hM_ne (fun q => c q.1)]
theorem hR_ne {lo hi k j : Nat} {h : Nat → Nat → Bool} (e : ¬ (lo ≤ k ∧ k < hi)) : hR lo hi h k j = h k j := if_neg e
theorem hR_eq {lo hi k j : Nat} {h : Nat → Nat → Bool} (e : lo ≤ k ∧ k < hi) : hR lo hi h k j = true := if_pos e
theorem hlow_M {c k0 n : Nat} {h : Nat → Nat → Bool} (hh : hlow c h) (hk : k0 < c) : hlow c (hM h k0 n) := fun k i hk' => by
  rw [hM_ne (fun q => by omega)]
  exact hh k i hk'
theorem wP_ref {c k j a : Nat} {h : Nat → Nat → Bool} {v : Int} (hh : h k j = true) (hr : WW.2.2 k j v = some a) : (wP c h).2.2 k j v = some a := by
  show (if h k j = true then _ else _) = _
  rw [hh]
  exact hr
theorem rtL_len : ∀ k, k < 217 → (rtL.getD k []).length ≤ 60 := by decide +kernel
theorem rfs_lt {k j : Nat} (h : rfs k j = true) : j < 60 := by
  unfold rfs at h
  rw [decide_eq_true_eq] at h
  refine Nat.not_le.mp fun q => h ?_
  by_cases c : k < 217
  · have := rtL_len k c
    rw [List.getD_eq_getElem?_getD, List.getElem?_eq_none (by omega)]
    rfl
  · have e : rtL.length = 217 := by decide +kernel
    rw [List.getD_eq_getElem?_getD (l := rtL), List.getElem?_eq_none (by omega)]
    rfl
section GROW4
variable {ρ : Type} {X : xX} {Qf : ρ → State → Prop} {cc : ByteArray} {own : String} {ret : Option FieldType} {rm : Room} {nL : Nat} {σ : xS} {pc k z c : Nat} {h : Nat → Nat → Bool} {L : List (Nat × Value)} {st : List Value} {o : Option ρ}
/-- a row of rows of ints more -/
theorem x_multi {n : Nat} (hc : 4 ≤ c ∧ c + n < 184) (Cg : xCg X cc own ret rm nL) {m index : Nat} {v u : Int} (hsh : WW.2.1 c = (4, n)) (hel : ∀ j, j < n → WW.2.1 (c + 1 + j) = (0, m)) (hrf : ∀ j, j < n → ∀ v, WW.2.2 c j v = some (c + 1 + j)) (hσ : ∀ k j, c < k → σ k j = 0) (h0 : hlow c h) (hfl : (xXE X).2.1.2.2 9 0 = 0) (hcl : Cond.classLink own index "[[I" ∈ GW) (hov : (Cond.arrayOver (.array .int)).before #[] (xXs X) = true) (har : Cond.arrayClass .int ∈ GW) (hv : Int32.ofInt v = Int32.ofNat n) (hu : Int32.ofInt u = Int32.ofNat m) (hnm : n ≤ 100000 ∧ m ≤ 100000) (d : decode cc pc = .ok (.multianewarray index 2, 4)) (h1 : k + (1 + n) ≤ rm.cells) (h2 : z + (n + n * m) ≤ rm.slots)
    (kk : WO (xat X (k + (1 + n)) (z + (n + n * m))) Qf (wP (c + 2 + n) (hM h c n)) σ (pc + 4) L (.ref (xqa (xXE X).2.2 c) :: st) o) : WO (xat X k z) Qf (wP (c + 1) h) σ pc L (iV u :: iV v :: st) o := by
  intro r hr H locs hR ls hl
  have C := Cg k z (by omega) (by omega)
  have hsz : H.size = (xXE X).2.2 + (c + 1) := hR.2.1.2 hfl
  have hqc : xqi c = c + 1 := xqi_up hc.1 (by omega)
  have hsa : H.size = xqa (xXE X).2.2 c := by rw [hsz, ← hqc]; rfl
  have hRm : xXR X = rm := C.2.2.2.2.2.2.2.2.2.1
  have hnn : (Int32.ofInt v).toNatClampNeg = n := by rw [hv]; exact nI_clamp (by omega)
  have hmm : (Int32.ofInt u).toNatClampNeg = m := by rw [hu]; exact nI_clamp (by omega)
  refine xW_multi (N := n) (M := m) C.1 C.2.1 C.2.2.2.1 (C.2.2.2.2.1 _ hcl) hov (C.2.2.2.2.1 _ har) rfl d rfl (by rw [hv]; exact Int32.not_lt.mpr (nI_pos' (by omega))) (by rw [hu]; exact Int32.not_lt.mpr (nI_pos' (by omega))) hnn hmm hnm.1 hnm.2 (by show k + _ ≤ (xXR X).cells; rw [hRm]; exact h1) (by show z + _ ≤ (xXR X).slots; rw [hRm]; exact h2) fun cA cI H1 locs1 g1 g2 z1 e1 e2 o1 hlo => ?_
  have hcA : cA = (xXE X).2.1.1 4 := Option.some.inj (g1.symm.trans (C.2.2.2.2.2.1.2 4 _ rfl).2)
  have hcI : cI = (xXE X).2.1.1 0 := Option.some.inj (g2.symm.trans (C.2.2.2.2.2.1.2 0 _ rfl).2)
  subst hcA
  subst hcI
  obtain ⟨hP, hz, hS⟩ := hR
  have hR1 : xRel (xXE X) (wP (c + 2 + n) (hM h c n)) σ (xXs X).heap H1 locs1 := by
    refine ⟨fun i q hq => ?_, ⟨⟨by rw [z1, hsz]; show _ + (c + 2 + n) ≤ _; omega, by show c + 2 + n ≤ 185; omega⟩, fun _ => by rw [z1, hsz]; show _ = _ + (c + 2 + n); omega⟩, ⟨Nat.le_trans hS.1 (by omega), fun x a1 a2 => (o1 x (Nat.lt_of_lt_of_le a1 hS.1)).trans (hS.2.1 x a1 a2), fun x hx => ?_⟩⟩
    · by_cases hi : i < c + 1
      · have hne : xpi i ≠ c := fun q => by
          have := xqp i
          rw [q, hqc] at this
          omega
        have e0 : xC (xXE X) (wP (c + 2 + n) (hM h c n)) σ (xpi i) = xC (xXE X) (wP (c + 1) h) σ (xpi i) := (xC_ext (w := wP (c + 1) h) (w' := wP (c + 2 + n) (hM h c n)) (σ := σ) (σ' := σ) (k := xpi i) rfl (fun j v => by show (if hM h c n (xpi i) j = true then _ else _) = _; rw [hM_ne (fun q => hne q.1)]; rfl) (fun _ => rfl)).symm
        rw [xws_nth (w := wP (c + 2 + n) (hM h c n)) (by show i < c + 2 + n; omega), e0] at hq
        cases hq
        have := hP.kept (H1 := H1) (fun k x hx => o1 x.1 ((hP k x hx).lt))
        exact this i _ (xws_nth (w := wP (c + 1) h) hi)
      · have hic : i < c + 2 + n := by
          have := (List.getElem?_eq_some_iff.mp hq).1
          simpa [xws, wP] using this
        have hpi : xpi i = i - 1 := by
          unfold xpi
          rw [if_neg (by omega), if_neg (by omega), if_pos (by omega)]
        rw [xws_nth (w := wP (c + 2 + n) (hM h c n)) hic, hpi] at hq
        cases hq
        by_cases hi2 : i = c + 1
        · subst hi2
          rw [show c + 1 - 1 = c by omega, xC_r (w := wP (c + 2 + n) (hM h c n)) (by omega) hsh]
          show H1[_]? = some (vp_cell _ _)
          rw [← hsz, e1, vp_cell_q]
          refine congrArg some (arrV_ext fun j hj => ?_)
          rw [wP_ref (hM_eq hj) (hrf j hj _), hsz]
          show Value.ref ((xXE X).2.2 + (c + 1) + 1 + j) = Value.ref ((xXE X).2.2 + xqi (c + 1 + j))
          rw [xqi_up (by omega) (by omega)]
          exact congrArg Value.ref (show (xXE X).2.2 + (c + 1) + 1 + j = (xXE X).2.2 + (c + 1 + j + 1) by omega)
        · obtain ⟨j, hj⟩ : ∃ j, i = c + 2 + j := ⟨i - (c + 2), by omega⟩
          subst hj
          rw [show c + 2 + j - 1 = c + 1 + j by omega, xC_0 (w := wP (c + 2 + n) (hM h c n)) (hel j (by omega))]
          show H1[_]? = some (vp_cell _ _)
          rw [show (xXE X).2.2 + (c + 2 + j) = H.size + 1 + j by omega, e2 j (by omega), vp_cell_i]
          exact congrArg some (arrV_ext fun q _ => by rw [hσ _ _ (by omega)]; rfl)
    · rcases hlo x hx with q | q
      · exact hS.2.2 x q
      · have hcc : c + 1 < 185 := by omega
        have hb : x.base = (xXE X).2.2 + (c + 1) := q.trans hsz
        show (xXE X).2.2 ≤ x.base ∧ x.base < (xXE X).2.2 + 185
        rw [hb]
        exact ⟨Nat.le_add_right _ _, Nat.add_lt_add_left hcc _⟩
  have := kk r hr H1 locs1 hR1 ls hl
  rw [hsa]
  exact this
end GROW4
theorem wdA0 : Cond.arrayClass .int ∈ GW := gwt1 18 (by decide +kernel) rfl
theorem wdA1 : Cond.arrayClass .long ∈ GW := gwt0 100 (by decide +kernel) rfl
theorem wdA2 : Cond.arrayClass .byte ∈ GW := gwt0 70 (by decide +kernel) rfl
theorem wdA3 : Cond.arrayClass .boolean ∈ GW := gwt1 19 (by decide +kernel) rfl
/-- what the tables say of rows of references, for the methods that make such rows -/
def xAO (U : State) : Prop := va_AO RX2 U ∧ va_AO RX6 U ∧ va_AO RX5 U ∧ (Cond.arrayOver (.array .int)).before #[] U = true
theorem xAO_moved {u U : State} (h : u.vm.Alike U.vm) (q : xAO u) : xAO U := ⟨q.1.moved h, q.2.1.moved h, q.2.2.1.moved h, over_moved h q.2.2.2⟩
def xMetO (l : Launch) (E : xE) (y : MethodName) (b : ByteArray) (nL : Nat) (ret : Option FieldType) (rm : Room) (as : List Value) (w w' : xW) (σ : xS) (res : Option (Option Value × xS)) : Prop :=
  ∀ r, res = some r → Met l y (.code y b nL ret :: GW) rm (va_Pc as (fun U => xPre E w σ U ∧ xAO U)) (xQ E w' r) rm.cells rm.slots (xA E)
theorem xMetO_of {l : Launch} {E : xE} {y : MethodName} {b : ByteArray} {nL : Nat} {ret : Option FieldType} {rm : Room} {as : List Value} {w w' : xW} {σ : xS} {res : Option (Option Value × xS)} (hy : plainName y.cls = true) (hn : (lg_sl as).length ≤ nL)
    (k : ∀ X : xX, E = xXE X → (xXd X).name = y.name → xAO (xXs X) → xCg X b y.cls ret rm nL → WO (xat X 0 0) (fun r => MQ (xXb X) (xQ (xXE X) w' r) (xXa X) (xXs X) rm.cells rm.slots (xA (xXE X))) w σ 0 (lv_args 0 as) [] res) : xMetO l E y b nL ret rm as w w' σ res := by
  intro r hr
  refine Met.ofW (cc := b) (maxL := nL) (ret := ret) hy rfl ?_
  intro p e s m args below meth c s₁ B hml hv
  obtain ⟨rfl, ⟨⟨hP, hsz, hK⟩, hNw, hAm, hAmC⟩, hAO⟩ := hv
  have hts := atoms_spec (ws := .code y b nL ret :: GW) B.pre
  by_cases hz : E.2.2 ≤ s.heap.size
  · have C : xCx (p, l, e, rm, s, m, as.toArray, below, meth, c, E, nL, 0, 0) b y.cls ret rm nL := ⟨B.exec, B.bytes, hml, findClass_of_methodNamed B.named, fun w hw => hts w (List.mem_cons_of_mem _ hw), hK, B.notSynchronized, hz, B.returns, rfl, rfl, ⟨Nat.zero_le _, Nat.zero_le _⟩, hNw, hAm, hAmC⟩
    have hl := lv_entry as hn
    rw [lg_entry_eq]
    exact k _ rfl (name_of_methodNamed B.named B.method).1 hAO (xCg_of C) r hr s.heap [] ⟨hP, hsz, va_S.rf⟩ _ hl
  · exact absurd (Nat.le_trans (Nat.le_add_right _ _) hsz.1.1) hz
theorem xPreO_blind {E : xE} {w : xW} {σ : xS} {as : List Value} : FrameBlind (va_Pc as (fun U => xPre E w σ U ∧ xAO U)) := fun a U g mk q => by
  obtain ⟨q0, q1, q2⟩ := q
  obtain ⟨p0, p1⟩ := xPre_blind a U g mk ⟨q0, q1⟩
  exact ⟨p0, p1, xAO_moved (u := U) (U := U.calling g mk a) (Vm.Alike.refl U.vm) q2⟩
/-- a constructor called that makes such rows -/
theorem x_callIO {ρ : Type} {X : xX} {Qf : ρ → State → Prop} {cc : ByteArray} {own : String} {ret : Option FieldType} {rm : Room} {nL : Nat} {σ : xS} {pc k z : Nat} {L : List (Nat × Value)} {st : List Value} {o : Option ρ} {y : MethodName} {b' : ByteArray} {nL' n idx k0 : Nat} {rm' : Room} {As : List Value} {w w' : xW} {τ : xS} (Cg : xCg X cc own ret rm nL) (hAO : xAO (xXs X)) (hkr : k + rm'.cells ≤ rm.cells ∧ z + rm'.slots ≤ rm.slots) (hM : xMetO (xXl X) (xXE X) y b' nL' none rm' (.ref (xqa (xXE X).2.2 k0) :: As) w w' σ (some (none, τ))) (m : xMth y b' nL' none n) (hi : y.name = "<init>") (hin : Cond.instanceMethod y ∈ GW) (hl : Cond.methodLink own idx y ∈ GW) (hn : As.length = n) (hroom : rm'.frames + 1 ≤ rm.frames ∧ 8 + (nL' + 11) + rm'.locals ≤ rm.locals) {st0 : List Value} (hst : st0 = As.reverse ++ .ref (xqa (xXE X).2.2 k0) :: st) (hcat : (st.map fun v => v.category).sum ≤ 8) (d : decode cc pc = .ok (.invokespecial idx, 3))
    (kk : WO (xat X (k + rm'.cells) (z + rm'.slots)) Qf w' τ (pc + 3) L st o) : WO (xat X k z) Qf w σ pc L st0 o := by
  intro r0 h H locs hR ls hls
  have C := Cg k z (by omega) (by omega)
  have hR' : xXR X = rm := C.2.2.2.2.2.2.2.2.2.1
  refine x_ran C hR hls h (r := (none, τ)) (va_runI (n := n) (mc := rm'.cells) (ms := rm'.slots) (rest := st) ⟨C.1, C.2.1, C.2.2.1, C.2.2.2.1, C.2.2.2.2.1⟩ (hM _ rfl) (by
      show CallB (xXR X) _ _ _ _ _ _ _ _ _ _ _ _ _ ∧ _
      rw [hR']
      exact cwI n C.2.2.2.2.1 (GW_in (GW_cons m.1)) rfl rfl rfl (C.2.2.2.2.1 _ m.2.1) (C.2.2.2.2.1 _ hl) (C.2.2.2.2.1 _ hin) hi m.2.2 hroom)
    ⟨xPreO_blind, fun U hU hW => ⟨rfl, xPre_of C hR U hU hW, xAO_moved hW.alike hAO⟩⟩ rfl hn (hls.1.trans C.2.2.2.2.2.2.2.2.2.2.1) hst (lv_room hcat) d (by show k + _ ≤ (xXR X).cells ∧ z + _ ≤ (xXR X).slots; rw [hR']; exact hkr)) (fun H1 locs1 hR1 => ?_)
  exact kk r0 h H1 locs1 hR1 ls hls
/-- what a program reads of the references of a region -/
theorem rq_of {lo hi : Nat} {P : Nat → Nat → Bool} (h : ((List.range (hi - lo)).all fun i => (List.range 60).all fun j => !(rfs (lo + i) j) || P (lo + i) j) = true) : ∀ k j, lo ≤ k → k < hi → rfs k j = true → P k j = true := fun k j h1 h2 h3 => by
  have h4 := List.all_eq_true.mp h (k - lo) (List.mem_range.mpr (by omega))
  have h5 := List.all_eq_true.mp h4 j (List.mem_range.mpr (rfs_lt h3))
  rw [show lo + (k - lo) = k by omega, h3] at h5
  simpa using h5
