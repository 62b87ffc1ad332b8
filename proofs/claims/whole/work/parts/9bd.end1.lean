/-! THE CLAIM OUT OF ONE WALK OF THE LAW'S BODY. Your part is whole_start (and what it stands on); all else here is the same for every law, but numbers. -/
def R_law : String := "BakeryNightLaw"
def lw_P (b : Addr) (xs : List Int32) (args : Array Value) (s : State) : Prop := args = #[.ref b] ∧ s.IntsAt b xs ∧ xs.length ≤ 3072 ∧ (Jvm.Cond.and given_1 narrow_1).before args s = true
def lw_Q (_ : Array Value) (s : State) (o : Outcome) (t : State) : Prop := o = .returned (some (.int 1)) ∧ Framed s o t [] 601024 7293034
def lw_Z (below : List Frame) (a : Array Value) (s : State) : State → Prop := fun t => ∃ o, t.status = .running ∧ Ended t below o ∧ lw_Q a s o t
/-- the law's own end, with 1 on the stack, nothing written that was there before, its room as the claim has it -/
theorem lw_ret {p : Program} {l : Launch} {e : Env} {s : State} {m : MethodId} {below : List Frame} {meth : Method} {c : Code} {b : Nat} (hx : p.tables.exec = Jvm.exec) (hb : c.code = code) (hr : meth.sig.returnType = ret) (hlocks : meth.locks = false) {pc : Nat} {H : Heap} {ls : Array Slot} (hdg : decode code pc = .ok (.ireturn, 1)) : W p l e room_1 s m #[Value.ref b] below meth c H [] 601024 7293034 (lw_Z below #[Value.ref b] s) (F0 m pc ls [.int 1]) := by
  intro T hT X
  obtain ⟨fs, hret, hrun, hended, hW, hframe⟩ := X.leave (v := some (.int 1)) (hlocks := hlocks) (fun h => by rw [hr] at h; cases h)
  have hmeth' : T.vm.method? m = some meth := X.method'
  refine ⟨T.setFrames fs, ?_, .returned (some (.int 1)), hrun, hended, rfl, ⟨_, rfl⟩, hW, hframe⟩
  jvm_step X.here [X.here.top, hx, hb, hdg, hmeth', hr, ret, narrow_b1]
  (try refine ⟨rfl, ?_⟩); (try refine ⟨rfl, ?_⟩)
  first | (intro acts; rw [hret _ acts rfl rfl rfl]) | rw [hret _ _ rfl rfl rfl]
  exact Steps.refl _
/-- what holds at the law's entry: the machine, the code, the tables' words (any of lw_tbl by 'hts w (by decide +kernel)'), the script of L ints xs at the cell b, what the Statement gives of the start (any of its parts by flat_of_before) -/
def lw_At (p : Program) (s : State) (m : MethodId) (meth : Method) (c : Code) (b L : Nat) (xs : Nat → Int32) : Prop :=
  p.tables.exec = Jvm.exec ∧ c.code = code ∧ meth.sig.returnType = ret ∧ c.maxLocals = 7 ∧ s.vm.findClass R_law = some m.cls ∧ (∀ w ∈ lw_tbl, w.before #[Value.ref b] s = true) ∧ va_X b L xs s s.heap ∧ b < s.heap.size ∧ meth.locks = false ∧ (Jvm.Cond.and given_1 narrow_1).before #[Value.ref b] s = true
/-- the same walk under a looser size -/
theorem lw_loose {ρ : Type} {p : Program} {l : Launch} {e : Env} {R : Room} {s : State} {m : MethodId} {args : Array Value} {below : List Frame} {meth : Method} {c : Code} {D : va_G} {cA : Nat → ClassId} {am : State → Heap → Prop} {ad ad1 : Nat → Nat → Nat} {z0 n k z : Nat} {Qf : ρ → State → Prop} {w : xW} {σ : xS} {pc : Nat} {L : List (Nat × Value)} {st : List Value} {o : Option ρ} (h1 : ad1 9 0 ≠ 0)
    (h : WO (p, l, e, R, s, m, args, below, meth, c, (D, (cA, am, ad1), z0), n, k, z) Qf w σ pc L st o) : WO (p, l, e, R, s, m, args, below, meth, c, (D, (cA, am, ad), z0), n, k, z) Qf w σ pc L st o := by
  intro r hr H locs hR ls hl
  exact h r hr H locs ⟨hR.1, ⟨hR.2.1.1, fun h0 => absurd h0 h1⟩, hR.2.2⟩ ls hl
set_option maxRecDepth 100000 in
theorem whole_start {p : Program} {e : Env} {s : State} {m : MethodId} {below : List Frame} {meth : Method} {c : Code} (l : Launch) (hflags : l.flags = flags0) {b L : Nat} {xs : Nat → Int32} (hL : L ≤ 3072) (C0 : lw_At p s m meth c b L xs) : W p l e room_1 s m #[Value.ref b] below meth c s.heap [] 0 0 (lw_Z below #[Value.ref b] s) (entryFrame m ([Value.ref b] : List Value).toArray 7) := by
  obtain ⟨hx, hb, hr, hml, hown, hts, hX, hbl, hlocks, hgv⟩ := C0
  have hf : ∀ w ∈ nfl, w.before #[Value.ref b] s = true := fun w hw => flat_of_before _ hgv w (nfl_in hw)
  have hG : ∀ w ∈ GW, w.before #[Value.ref b] s = true := fun w hw => hts w (List.mem_filter.mp hw).1
  have hA : ∀ a : Nat, a < s.heap.size → ¬ s.heap.size ≤ a := fun a h => by omega
  have hlt : l.stackTraces = false := by
    show (!l.flags.contains noTraceFlag) = false
    rw [hflags]
    decide
  have o2 : (Cond.arrayOver (.object RX2)).before #[Value.ref b] s = true := hts _ (by decide +kernel)
  have o6 : (Cond.arrayOver (.object RX6)).before #[Value.ref b] s = true := hts _ (by decide +kernel)
  have o5 : (Cond.arrayOver (.object RX5)).before #[Value.ref b] s = true := hts _ (by decide +kernel)
  have oI : (Cond.arrayOver (.array .int)).before #[Value.ref b] s = true := hts _ (by decide +kernel)
  have hAO : xAO s := ⟨o2, o6, o5, oI⟩
  obtain ⟨D, cA, hK⟩ := lt_K hG o2 o6 o5 oI
  obtain ⟨a0, a1, a2, w3, w4, x9, hKW⟩ := lt_KW (A := fun q => s.heap.size ≤ q) hts hf hA
  have hNw := lt_Nw hts
  have hXT := lt_XT (A := fun q => s.heap.size ≤ q) hts hf hA
  obtain ⟨E0, hE0⟩ : ∃ E0 : xE, E0 = (D, (cA, (fun _ _ => True), lad a0 a1 a2 w3 w4 x9 0), s.heap.size) := ⟨_, rfl⟩
  obtain ⟨E1, hE1⟩ : ∃ E1 : xE, E1 = (D, (cA, (fun _ _ => True), lad a0 a1 a2 w3 w4 x9 1), s.heap.size) := ⟨_, rfl⟩
  have C0 : xCx (p, l, e, room_1, s, m, #[Value.ref b], below, meth, c, E0, 7, 0, 0) cL_law "BakeryNightLaw" (some .boolean) room_1 7 := by
    subst hE0
    exact ⟨hx, hb, hml, hown, hG, hK, hlocks, Nat.le_refl _, hr, rfl, rfl, ⟨Nat.zero_le _, Nat.zero_le _⟩, hNw, hKW 0, xAmC_all _⟩
  have C1 : xCx (p, l, e, room_1, s, m, #[Value.ref b], below, meth, c, E1, 7, 0, 0) cL_law "BakeryNightLaw" (some .boolean) room_1 7 := by
    subst hE1
    exact ⟨hx, hb, hml, hown, hG, hK, hlocks, Nat.le_refl _, hr, rfl, rfl, ⟨Nat.zero_le _, Nat.zero_le _⟩, hNw, hKW 1, xAmC_all _⟩
  have main : WO (xat (p, l, e, room_1, s, m, #[Value.ref b], below, meth, c, E0, 7, 0, 0) 0 0) (fun (_ : Unit) => lw_Z below #[Value.ref b] s) (wP 0 (fun _ _ => false)) (fun _ _ => 0) 0 [(0, .ref b)] [] (some ()) := by
    refine lw_made (xCg_of C0) hAO (by rw [hE0]; rfl) (fun σ z hz hTI => ?_)
    have fin : ∀ (τ : xS) (i k z : Nat), k ≤ 601024 → z ≤ 7293034 → WO (xat (p, l, e, room_1, s, m, #[Value.ref b], below, meth, c, E1, 7, 0, 0) k z) (fun (_ : Unit) => lw_Z below #[Value.ref b] s) WW τ 1452 (lL (p, l, e, room_1, s, m, #[Value.ref b], below, meth, c, E1, 7, 0, 0) b i) [] (some ()) := fun τ i k z hk hz => by
      have C := xCg_of C1 k z hk hz
      refine x_iconst C (1) dL_law_1452 rfl ?_
      intro r hr' H locs hR ls hl
      refine W.widen (k := 601024) (n := 7293034) hk hz ?_
      refine va_forget (fun q hq => ?_) (lw_ret hx hb hr hlocks dL_law_1453)
      have h := hR.2.2.2.2 q hq
      rw [hE1] at h
      exact h
    have hs : lsS (p, l, e, room_1, s, m, #[Value.ref b], below, meth, c, E1, 7, 0, 0) b L xs := ⟨hX, hbl, by rw [hE1]; exact Nat.le_refl _, hL⟩
    have loop := lw_loop (xCg_of C1) hs (by rw [hE1]; exact hXT) hlt (by rw [hE1]; exact Nat.one_ne_zero) fin (L + 6) 0 217 z σ (by omega) (by omega) (by omega) (by omega) hTI
    subst hE0
    subst hE1
    exact lw_loose (ad1 := lad a0 a1 a2 w3 w4 x9 1) Nat.one_ne_zero loop
  have hn : (lg_sl [Value.ref b]).length ≤ 7 := Nat.le_of_ble_eq_true rfl
  have hl := lv_entry [Value.ref b] hn
  rw [lg_entry_eq]
  refine main () rfl s.heap [] ⟨fun k q hk => ?_, ⟨by rw [hE0]; exact Nat.le_refl _, fun _ => by rw [hE0]; rfl⟩, va_S.rf⟩ _ hl
  have hk' : ([] : va_W)[k]? = some q := hk
  cases hk'
