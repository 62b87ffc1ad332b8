/-! THE CLAIM OUT OF ONE WALK OF THE LAW'S BODY. Your part is whole_start (and what it stands on); all else here is the same for every law, but numbers. -/
def R_law : String := "BakeryNightLaw"
def lw_P (b : Addr) (xs : List Int32) (args : Array Value) (s : State) : Prop := args = #[.ref b] ∧ s.IntsAt b xs ∧ xs.length ≤ 260 ∧ (Jvm.Cond.and given_1 narrow_1).before args s = true
def lw_Q (_ : Array Value) (s : State) (o : Outcome) (t : State) : Prop := o = .returned (some (.int 1)) ∧ Framed s o t [] 600086 7301442
def lw_Z (below : List Frame) (a : Array Value) (s : State) : State → Prop := fun t => ∃ o, t.status = .running ∧ Ended t below o ∧ lw_Q a s o t
/-- the law's own end, with 1 on the stack, nothing written that was there before, its room as the claim has it -/
theorem lw_ret {p : Program} {l : Launch} {e : Env} {s : State} {m : MethodId} {below : List Frame} {meth : Method} {c : Code} {b : Nat} (hx : p.tables.exec = Jvm.exec) (hb : c.code = code) (hr : meth.sig.returnType = ret) (hlocks : meth.locks = false) {pc : Nat} {H : Heap} {ls : Array Slot} (hdg : decode code pc = .ok (.ireturn, 1)) : W p l e room_1 s m #[Value.ref b] below meth c H [] 600086 7301442 (lw_Z below #[Value.ref b] s) (F0 m pc ls [.int 1]) := by
  intro T hT X
  obtain ⟨fs, hret, hrun, hended, hW, hframe⟩ := X.leave (v := some (.int 1)) (hlocks := hlocks) (fun h => by rw [hr] at h; cases h)
  have hmeth' : T.vm.method? m = some meth := X.method'
  refine ⟨T.setFrames fs, ?_, .returned (some (.int 1)), hrun, hended, rfl, ⟨_, rfl⟩, hW, hframe⟩
  jvm_step X.here [X.here.top, hx, hb, hdg, hmeth', hr, ret, narrow_b1]
  (try refine ⟨rfl, ?_⟩); (try refine ⟨rfl, ?_⟩)
  first | (intro acts; rw [hret _ acts rfl rfl rfl]) | rw [hret _ _ rfl rfl rfl]
  exact Steps.refl _
/-- what holds at the law's entry: the machine, the code, the tables' words (any of lw_tbl by 'hts w (by decide +kernel)'), the script of L ints xs at the cell b, what the Statement gives of the start (any of its parts by flat_of_before) -/
def lw_At (p : Program) (s : State) (m : MethodId) (meth : Method) (c : Code) (b L : Nat) (xs : Nat → Int32) : Prop :=
  p.tables.exec = Jvm.exec ∧ c.code = code ∧ meth.sig.returnType = ret ∧ c.maxLocals = 5 ∧ s.vm.findClass R_law = some m.cls ∧ (∀ w ∈ lw_tbl, w.before #[Value.ref b] s = true) ∧ va_X b L xs s s.heap ∧ b < s.heap.size ∧ meth.locks = false ∧ (Jvm.Cond.and given_1 narrow_1).before #[Value.ref b] s = true
theorem t_selP {y : MethodName} {s : State} {args : Array Value} (h1 : (Cond.instantiable "java/lang/StringBuilder" 4).before args s = true) (hpriv : (Cond.privateMethod y).before args s = true) (hinst : (Cond.instanceMethod y).before args s = true) (hsame : (Cond.sameMethod y.cls y.cls y.name y.desc).before args s = true) : (Cond.selects "java/lang/StringBuilder" y y).before args s = true := by
  obtain ⟨c, k, hc, hk, -⟩ := Cond.instantiable_spec h1
  obtain ⟨mk, methM, hnamed, hmethM, -, -⟩ := Cond.instanceMethod_spec hinst
  obtain ⟨cR, ckR, r, hcR, hckR, hni, hfound, hnR⟩ := Cond.sameMethod_found hsame
  have e : r = mk := Option.some.inj (hnR.symm.trans hnamed)
  subst e
  have hcls : r.cls = cR := Option.some.inj ((findClass_of_methodNamed hnamed).symm.trans hcR)
  have hsel : selectMethod {} s.vm c r = .method r := selectMethod_private hmethM (Cond.privateMethod_at hpriv r methM hnamed hmethM)
  simp only [Cond.before, Cond.holds, Cond.value, hc, hfound, hnamed, hsel, hcls, hckR]
  simp
  exact hni
theorem lt_tW {s : State} {args : Array Value} (hT : ∀ w ∈ lw_tbl, w.before args s = true) : tW s := by
  have h1 : (Cond.instantiable "java/lang/StringBuilder" 4).before args s = true := hT _ (by decide +kernel)
  refine ⟨fun q hq => ?_, va_Nw.of rfl (hT (.castable "[B" "java/lang/Cloneable") (by decide +kernel)), lt_Nw hT⟩
  have h : PRl.all (fun q => decide (Cond.privateMethod q ∈ lw_tbl) && decide (Cond.instanceMethod q ∈ lw_tbl) && decide (Cond.sameMethod q.cls q.cls q.name q.desc ∈ lw_tbl)) = true := by decide +kernel
  have h9 := List.all_eq_true.mp h q hq
  simp only [Bool.and_eq_true, decide_eq_true_eq] at h9
  exact va_Nw.of rfl (t_selP h1 (hT _ h9.1.1) (hT _ h9.1.2) (hT _ h9.2))
set_option maxRecDepth 100000 in
theorem whole_of (hF : ∀ σ, J0S σ → ∃ τ, FirstOK σ τ ∧ JS τ) (hRd : ∀ c σ, JS σ → RoundOK JS c σ) (hAL : ∀ c, aL (bT c)) {p : Program} {e : Env} {s : State} {m : MethodId} {below : List Frame} {meth : Method} {c : Code} (l : Launch) {b L : Nat} {xs : Nat → Int32} (hL : L ≤ 260) (C0 : lw_At p s m meth c b L xs) : W p l e room_1 s m #[Value.ref b] below meth c s.heap [] 0 0 (lw_Z below #[Value.ref b] s) (entryFrame m ([Value.ref b] : List Value).toArray 5) := by
  obtain ⟨hx, hb, hr, hml, hown, hts, hX, hbl, hlocks, hgv⟩ := C0
  have hf : ∀ w ∈ nfl, w.before #[Value.ref b] s = true := fun w hw => flat_of_before _ hgv w (nfl_in hw)
  have hG : ∀ w ∈ GW, w.before #[Value.ref b] s = true := fun w hw => hts w (List.mem_filter.mp hw).1
  have hA : ∀ a : Nat, a < s.heap.size → ¬ s.heap.size ≤ a := fun a h => by omega
  have o2 : (Cond.arrayOver (.object RX2)).before #[Value.ref b] s = true := hts _ (by decide +kernel)
  have o6 : (Cond.arrayOver (.object RX6)).before #[Value.ref b] s = true := hts _ (by decide +kernel)
  have o5 : (Cond.arrayOver (.object RX5)).before #[Value.ref b] s = true := hts _ (by decide +kernel)
  have oI : (Cond.arrayOver (.array .int)).before #[Value.ref b] s = true := hts _ (by decide +kernel)
  have hAO : xAO s := ⟨o2, o6, o5, oI⟩
  obtain ⟨D, cA, hK⟩ := lt_K hG o2 o6 o5 oI
  obtain ⟨a0, a1, a2, w3, w4, d1, d2, x9, l5, l6, hKW⟩ := lt_KW (A := fun q => s.heap.size ≤ q) hts hf hA
  have hNw := lt_Nw hts
  have hTW := lt_tW hts
  obtain ⟨E0, hE0⟩ : ∃ E0 : xE, E0 = (D, (cA, (fun _ _ => True), lad a0 a1 a2 w3 w4 d1 d2 x9 l5 l6 0), s.heap.size) := ⟨_, rfl⟩
  obtain ⟨E1, hE1⟩ : ∃ E1 : xE, E1 = (D, (cA, (fun _ _ => True), lad a0 a1 a2 w3 w4 d1 d2 x9 l5 l6 1), s.heap.size) := ⟨_, rfl⟩
  have hxA0 : ∀ q, xA E0 q → s.heap.size ≤ q := fun q hq => by rw [hE0] at hq; exact hq.1
  have hxA1 : ∀ q, xA E1 q → s.heap.size ≤ q := fun q hq => by rw [hE1] at hq; exact hq.1
  have C0 : xCx (p, l, e, room_1, s, m, #[Value.ref b], below, meth, c, E0, 5, 0, 0) cL_law "BakeryNightLaw" (some .boolean) room_1 5 := by
    refine ⟨hx, hb, hml, hown, hG, ?_, hlocks, ?_, hr, rfl, rfl, ⟨Nat.zero_le _, Nat.zero_le _⟩, hNw, ?_, ?_⟩
    · show xK E0 s
      rw [hE0]
      exact hK
    · show E0.2.2 ≤ s.heap.size
      rw [hE0]
      exact Nat.le_refl _
    · show xAm E0 s s.heap
      refine ⟨?_, by rw [hE0]; exact trivial⟩
      have h := KW_fresh (B := xA E0) (hKW 0) (fun q hq => Or.inl (hxA0 q hq))
      rw [hE0] at h ⊢
      exact h
    · show xAmC E0
      refine xAmC_of (fun _ _ _ _ _ _ _ => ?_)
      rw [hE0]
      exact trivial
  have hXT : va_T .int b L (fun j => .int (xs j)) (fun q => s.heap.size ≤ q) s s.heap := by
    obtain ⟨scr, hcb, hof, hkn, hsz, hval⟩ := hX
    exact ⟨scr, hcb, hof, hkn, by rw [hsz]; exact Nat.le_refl _, by rw [hsz], hval, hA b hbl⟩
  have C1 : tCx (p, l, e, room_1, s, m, #[Value.ref b], below, meth, c, E1, 5, 0, 0) (fun q => s.heap.size ≤ q) [.inr (b, L, xs)] cL_law "BakeryNightLaw" (some .boolean) room_1 5 := by
    refine ⟨hx, hb, hml, hown, hG, ?_, hlocks, fun q hq => hq, hr, rfl, rfl, ?_⟩
    · show xK E1 s
      rw [hE1]
      exact hK
    · show tK E1 _ _ s s.heap
      rw [hE1]
      refine tK_of hTW (hKW 1) (fun q hq => Or.inl hq) (fun q hq => ?_)
      rw [List.mem_singleton.mp hq]
      exact hXT
  have hfl : E1.2.1.2.2 9 0 ≠ 0 := by
    rw [hE1]
    exact Nat.one_ne_zero
  have ham : ∀ U H, E1.2.1.2.1 U H := fun U H => by
    rw [hE1]
    exact trivial
  have fin : ∀ (τ : xS) (nk nz : Nat), nk ≤ 600086 → nz ≤ 7301442 → TO (p, l, e, room_1, s, m, #[Value.ref b], below, meth, c, E1, 5, 0, 0) (fun q => s.heap.size ≤ q) (lw_Z below #[Value.ref b] s) (wA E1 τ tN) nk nz 79 [(0, .ref b), (1, .ref (xqa E1.2.2 0)), (2, iV 2)] [] := fun τ nk nz hk hz => by
    refine tw_iload_n C1 2 dL_law_79 rfl rfl ?_
    refine tw_iconst C1 (2) dL_law_80 rfl ?_
    refine tw_icmp_ge C1 187 (x' := 2) (y' := 2) (zI_eq (by decide) (by decide)) (zI_eq (by decide) (by decide)) dL_law_81 rfl (fun _ => ?_) (fun hc => absurd (by decide) hc)
    refine tw_iconst C1 (1) dL_law_187 rfl ?_
    intro H locs hR ls hl
    refine W.widen (k := 600086) (n := 7301442) hk hz ?_
    exact va_forget (fun q hq => hR.2.2.2 q hq) (lw_ret hx hb hr hlocks dL_law_188)
  have main : WO (xat (p, l, e, room_1, s, m, #[Value.ref b], below, meth, c, E0, 5, 0, 0) 0 0) (fun (_ : Unit) => lw_Z below #[Value.ref b] s) (wP 0 (fun _ _ => false)) (fun _ _ => 0) 0 [(0, .ref b)] [] (some ()) := by
    refine lw_made (xCg_of C0) hAO (by show E0.2.1.2.2 9 0 = 0; rw [hE0]; rfl) (fun σ hJ => ?_)
    intro r hr' H locs hR ls hl
    obtain ⟨τ, hF1, hJ1⟩ := hF σ hJ
    have T : TO (p, l, e, room_1, s, m, #[Value.ref b], below, meth, c, E1, 5, 0, 0) (fun q => s.heap.size ≤ q) (lw_Z below #[Value.ref b] s) (wA E1 σ tN) 185 7415 8 [(1, .ref (xqa E1.2.2 0)), (0, .ref b)] [] := by
      refine lw_first C1 hL hfl ham hxA1 (by decide) (by decide) hF1 ?_
      refine lw_round (k := 0) C1 hL hfl ham hxA1 (by decide) (by decide) (by decide) hAL (hRd _ _ hJ1) (fun τ2 hJ2 => ?_)
      refine lw_round (k := 1) C1 hL hfl ham hxA1 (by decide) (by decide) (by decide) hAL (hRd _ _ hJ2) (fun τ3 hJ3 => ?_)
      exact fin τ3 _ _ (by decide) (by decide)
    have e2 : xqa E0.2.2 0 = xqa E1.2.2 0 := by rw [hE0, hE1]
    have hl' : lv_has ls 5 [(1, .ref (xqa E1.2.2 0)), (0, .ref b)] := by
      rw [← e2]
      exact hl
    refine T H locs ⟨wA_of ?_ hxA1, hR.2.2.1, fun q h1 h2 => hR.2.2.2.1 q h1 (fun c => h2 (hxA0 q c)), fun q hq => hxA0 _ (hR.2.2.2.2 q hq)⟩ ls hl'
    have hP : va_P E0.1 vwCl (xws E0 WW σ) H := hR.1
    rw [hE0] at hP
    show va_P E1.1 vwCl (xws E1 WW σ) H
    rw [hE1]
    exact hP
  have hn : (lg_sl [Value.ref b]).length ≤ 5 := Nat.le_of_ble_eq_true rfl
  have hl := lv_entry [Value.ref b] hn
  rw [lg_entry_eq]
  refine main () rfl s.heap [] ⟨fun k q hk => ?_, ⟨⟨?_, Nat.zero_le _⟩, fun _ => ?_⟩, va_S.rf⟩ _ hl
  · have hk' : ([] : va_W)[k]? = some q := hk
    cases hk'
  · show E0.2.2 + 0 ≤ s.heap.size
    rw [hE0]
    exact Nat.le_refl _
  · show s.heap.size = E0.2.2 + 0
    rw [hE0]
    rfl
