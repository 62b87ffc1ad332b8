/-! rows of rows of ints: the instruction that makes them all at once -/
section MLT
/-- the outer row when i inner ones hang in it; an inner row; the state then -/
def mlO (cA : ClassId) (N b i : Nat) : Cell := arrV cA N (fun j => if j < i then .ref (b + 1 + j) else .null)
def mlI (cI : ClassId) (M : Nat) : Cell := arrV cI M (fun _ => .int 0)
def mlS (s : State) (cA cI : ClassId) (N M : Nat) : Nat → State
  | 0 => s.pushCell (mlO cA N s.heap.size 0)
  | i + 1 => ((mlS s cA cI N M i).pushCell (mlI cI M)).setCell s.heap.size (mlO cA N s.heap.size (i + 1))
variable {s : State} {cA cI : ClassId} {N M : Nat}
theorem ml_lt (s : State) (x : Cell) {q : Nat} (h : q < s.heap.size) : (s.pushCell x).heap[q]? = s.heap[q]? := State.heap_pushCell_of_lt _ _ h
theorem mlO_next (i : Nat) {b : Nat} : (mlO cA N b i).setSlot i (.ref (b + 1 + i)) = mlO cA N b (i + 1) := by
  unfold mlO
  rw [arrV_store]
  refine arrV_ext fun j _ => ?_
  by_cases c : j = i
  · subst c
    simp [updV]
  · unfold updV
    rw [if_neg c]
    dsimp only
    by_cases d : j < i
    · rw [if_pos d, if_pos (by omega)]
    · rw [if_neg d, if_neg (by omega)]
theorem mlS_facts (i : Nat) : (mlS s cA cI N M i).heap.size = s.heap.size + 1 + i ∧ (mlS s cA cI N M i).heap[s.heap.size]? = some (mlO cA N s.heap.size i) ∧ (mlS s cA cI N M i).vm = s.vm ∧ (mlS s cA cI N M i).slotsUsed = s.slotsUsed + N + i * M ∧ (∀ q, q < s.heap.size → (mlS s cA cI N M i).heap[q]? = s.heap[q]?) ∧ ∀ j, j < i → (mlS s cA cI N M i).heap[s.heap.size + 1 + j]? = some (mlI cI M) := by
  have zO : ∀ i, (mlO cA N s.heap.size i).slots.size = N := fun i => arrV_size _ _ _
  have zI : (mlI cI M).slots.size = M := arrV_size _ _ _
  induction i with
  | zero =>
    refine ⟨by simp [mlS], by simp [mlS], rfl, by simp [mlS, zO], fun q hq => ?_, fun j hj => absurd hj (Nat.not_lt_zero _)⟩
    exact ml_lt s _ hq
  | succ i ih =>
    obtain ⟨h1, h2, h3, h4, h5, h6⟩ := ih
    have hlt : s.heap.size < ((mlS s cA cI N M i).pushCell (mlI cI M)).heap.size := by
      rw [State.heap_pushCell, Array.size_push, h1]
      omega
    have hother : ∀ q, q ≠ s.heap.size → (mlS s cA cI N M (i + 1)).heap[q]? = ((mlS s cA cI N M i).pushCell (mlI cI M)).heap[q]? := fun q hq => heapAt_setCell_ne _ (Ne.symm hq)
    refine ⟨?_, heapAt_setCell_self _ hlt, by simp [mlS, h3], by simp [mlS, h4, zI, Nat.succ_mul]; omega, fun q hq => ?_, fun j hj => ?_⟩
    · show (((mlS s cA cI N M i).pushCell (mlI cI M)).setCell s.heap.size _).heap.size = _
      rw [size_setCell, State.heap_pushCell, Array.size_push, h1]
      omega
    · rw [hother q (by omega), ml_lt (mlS s cA cI N M i) (mlI cI M) (by rw [h1]; omega)]
      exact h5 q hq
    · rw [hother _ (by omega)]
      by_cases d : j < i
      · rw [ml_lt (mlS s cA cI N M i) (mlI cI M) (by rw [h1]; omega)]
        exact h6 j d
      · have e : s.heap.size + 1 + j = (mlS s cA cI N M i).heap.size := by rw [h1]; omega
        rw [e]
        exact State.heap_pushCell_size _ _
theorem mlS_top (f : JFrame) (i : Nat) : mlS (s.setTop f) cA cI N M i = (mlS s cA cI N M i).setTop f := by
  induction i with
  | zero => rfl
  | succ i ih => simp only [mlS, ih, State.heap_setTop, State.pushCell_setTop, State.setCell_setTop]
variable {E : CtlPost} {e : Env} {d : Bool} {acts : List Action}
/-- one row made -/
theorem ml_new {c comp : ClassId} {k : Class} {type : FieldType} {len : Nat} {init : Value} (hk : s.vm.classes[c]? = some k) (hkind : k.kind = .array comp type) (hl : ¬ len > e.platform.arrayLengthLimit) (hh : ¬ len * componentBytes type > e.platform.maxHeapBytes) (hfit : fits type init = true) (hdef : init.isDefault = true) {Q : Addr → Pre} (h1 : s.heap.size < e.platform.maxCells) (h2 : s.slotsUsed + len ≤ e.platform.maxSlots) (hq : Q s.heap.size d acts (s.pushCell (arrV c len (fun _ => init)))) : wp (Jvm.newArray c len init) Q E e d acts s := by
  have hf : ∀ i v, (Array.replicate len init)[i]? = some v → s.fitsSlot c .none i v = true := by
    intro i v hv
    rw [Array.getElem?_replicate] at hv
    by_cases q : i < len
    · rw [if_pos q] at hv
      cases hv
      simp [State.fitsSlot, State.slotType?, hk, hkind, hfit]
    · rw [if_neg q] at hv
      cases hv
  have ha : allocActs (Array.replicate len init) s.heap.size acts = acts := by
    have hall : ((Array.replicate len init).all (·.isDefault)) = true := by
      rw [Array.all_replicate]
      split
      · rfl
      · exact hdef
    unfold allocActs
    rw [if_pos hall]
  rw [← arrV_new] at hq
  simp only [Jvm.newArray, Jvm.arrayFits, wp_bind', W.ask, W.ite, hl, if_false, wp_pure', W.theClass, hk, hkind, hh, W.alloc, W.stop, Option.some.injEq, exists_eq_left', Array.size_replicate, ha]
  rw [if_neg (by omega)]
  exact ⟨h1, h2, hf, hq⟩
/-- all rows made -/
theorem ml_make {cx : ClassId} {k kc : Class} {n m : Int32} (hk : s.vm.classes[cA]? = some k) (hkind : k.kind = .array cI (.array .int)) (hkc : s.vm.classes[cI]? = some kc) (hkindc : kc.kind = .array cx .int) (hn : ¬ n < 0) (hm : ¬ m < 0) (hN : n.toNatClampNeg = N) (hM : m.toNatClampNeg = M)
    (hl1 : ¬ N > e.platform.arrayLengthLimit) (hh1 : ¬ N * componentBytes (.array .int) > e.platform.maxHeapBytes) (hl2 : ¬ M > e.platform.arrayLengthLimit) (hh2 : ¬ M * componentBytes .int > e.platform.maxHeapBytes)
    (hc : s.heap.size + 1 + N ≤ e.platform.maxCells) (hs : s.slotsUsed + N + N * M ≤ e.platform.maxSlots) {Q : Addr → Pre} (hq : ∀ d' acts', Q s.heap.size d' acts' (mlS s cA cI N M N)) : wp (Jvm.Op.multianewarray.make cA [n, m]) Q E e d acts s := by
  have hfind : ([m].find? (· < 0)) = none := by simp [hm]
  have e0 : arrV cA N (fun _ => Value.null) = mlO cA N s.heap.size 0 := arrV_ext fun j _ => by rw [if_neg (Nat.not_lt_zero _)]
  rw [Jvm.Op.multianewarray.make]
  simp only [wp_bind', W.ite, hn, if_false, wp_pure', W.theClass, hk, hkind, Option.some.injEq, exists_eq_left', hN]
  refine ml_new hk hkind hl1 hh1 rfl rfl (by omega) (by have := Nat.zero_le (N * M); omega) ?_
  simp only [hfind]
  rw [ite_self, wp_bind', Std.Legacy.Range.forIn_eq_forIn_range', e0]
  have hsz : ([:N] : Std.Legacy.Range).size = N := by simp [Std.Legacy.Range.size]
  rw [hsz]
  show wp (forIn (List.range' 0 N 1) PUnit.unit _) _ E e d acts _
  refine wp_forIn_inv (fun rest s' => ∃ i, i ≤ N ∧ rest = List.range' i (N - i) ∧ s' = mlS s cA cI N M i) _ _ ⟨0, Nat.zero_le _, rfl, rfl⟩ ?_ ?_
  · rintro x rest s' d' acts' Q' ⟨i, hi, hl, rfl⟩ hnext
    have hlt : i < N := by
      rcases Nat.lt_or_ge i N with h | h
      · exact h
      · rw [show N - i = 0 by omega] at hl
        cases hl
    rw [show N - i = (N - (i + 1)) + 1 by omega, List.range'_succ] at hl
    obtain ⟨rfl, rfl⟩ : x = i ∧ rest = List.range' (i + 1) (N - (i + 1)) := ⟨(List.cons.inj hl).1, (List.cons.inj hl).2⟩
    obtain ⟨f1, f2, f3, f4, f5, f6⟩ := mlS_facts (s := s) (cA := cA) (cI := cI) (N := N) (M := M) x
    have hmul : x * M + M ≤ N * M := by
      have := Nat.mul_le_mul_right M (show x + 1 ≤ N from hlt)
      rw [Nat.succ_mul] at this
      exact this
    simp only [wp_bind']
    rw [Jvm.Op.multianewarray.make]
    simp only [wp_bind', W.ite, hm, if_false, wp_pure', W.theClass, f3, hkc, hkindc, Option.some.injEq, exists_eq_left', hM]
    refine ml_new (by rw [f3]; exact hkc) hkindc hl2 hh2 rfl rfl (by rw [f1]; omega) (by rw [f4]; omega) ?_
    have hlt0 : s.heap.size < (mlS s cA cI N M x).heap.size := by rw [f1]; omega
    simp only [wp_bind', W.writeLoc, wp_pure']
    refine ⟨mlO cA N s.heap.size x, by rw [State.heap_pushCell_of_lt (h := hlt0)]; exact f2, (by intro q; cases q), (by show x < (arrV _ _ _).slots.size; rw [arrV_size]; exact hlt), ?_, hnext _ _ _ ⟨x + 1, hlt, rfl, ?_⟩⟩
    · show State.fitsSlot _ cA .none x _ = true
      simp [State.fitsSlot, State.slotType?, f3, hk, hkind, fits]
    · rw [f1, mlO_next]
      rfl
  · rintro s' d' acts' ⟨i, hi, hl, rfl⟩
    have hiN : i = N := by
      rcases Nat.lt_or_ge i N with h | h
      · rw [show N - i = (N - (i + 1)) + 1 by omega, List.range'_succ] at hl
        cases hl
      · omega
    subst hiN
    simp only [wp_pure']
    exact hq _ _
end MLT
section MLW
variable {p : Program} {l : Launch} {e : Env} {R : Room} {s : State} {m : MethodId} {args : Array Value} {below : List Frame} {meth : Method} {c : Code} {T : State} {H : Heap} {locs : List Loc} {cells slots : Nat} {Q : State → Prop} {cc : ByteArray}
theorem ml_stand (X : Stand p l e R s m args below meth c T locs cells slots) (cA cI : ClassId) (N M : Nat) (i : Nat) : Stand p l e R s m args below meth c (mlS T cA cI N M i) (locs ++ (List.range i).map fun j => ⟨T.heap.size, j⟩) (cells + 1 + i) (slots + N + i * M) := by
  induction i with
  | zero =>
    have h := X.pushed (mlO cA N T.heap.size 0)
    rw [show (mlO cA N T.heap.size 0).slots.size = N from arrV_size _ _ _] at h
    simpa [mlS] using h
  | succ i ih =>
    obtain ⟨f1, f2, f3, f4, f5, f6⟩ := mlS_facts (s := T) (cA := cA) (cI := cI) (N := N) (M := M) i
    have hcell : ((mlS T cA cI N M i).pushCell (mlI cI M)).heap[T.heap.size]? = some (mlO cA N T.heap.size i) := by
      rw [ml_lt (mlS T cA cI N M i) (mlI cI M) (by rw [f1]; omega)]
      exact f2
    have h := (ih.pushed (mlI cI M)).stored hcell i (.ref (T.heap.size + 1 + i))
    rw [mlO_next, show (mlI cI M).slots.size = M from arrV_size _ _ _] at h
    have e2 : (locs ++ (List.range (i + 1)).map fun j => (⟨T.heap.size, j⟩ : Loc)) = (locs ++ (List.range i).map fun j => (⟨T.heap.size, j⟩ : Loc)) ++ [⟨T.heap.size, i⟩] := by
      rw [List.range_succ, List.map_append, List.append_assoc]
      rfl
    rw [e2, show slots + N + (i + 1) * M = slots + N + i * M + M by rw [Nat.succ_mul]; omega]
    exact h
theorem xW_multi (hexec : p.tables.exec = Jvm.exec) (hb : c.code = cc) {own : String} {index N M : Nat} (hown : s.vm.findClass own = some m.cls) (hclink : (Cond.classLink own index "[[I").before args s = true) (hover : (Cond.arrayOver (.array .int)).before args s = true) (harr : (Cond.arrayClass .int).before args s = true)
    {g : JFrame} (hg : g.method = m) (hdg : decode cc g.pc = .ok (.multianewarray index 2, 4)) {n k : Int32} {rest : List Value} (hstack : g.stack = .int k :: .int n :: rest) (hn : ¬ n < 0) (hk : ¬ k < 0) (hN : n.toNatClampNeg = N) (hM : k.toNatClampNeg = M) (hb1 : N ≤ 100000) (hb2 : M ≤ 100000) (hcells : cells + (1 + N) ≤ R.cells) (hslots : slots + (N + N * M) ≤ R.slots)
    (kk : ∀ (cA cI : ClassId) (H1 : Heap) (locs1 : List Loc), s.vm.findClass ("[" ++ (FieldType.array .int).toString) = some cA → s.vm.findClass (FieldType.array .int).toString = some cI → H1.size = H.size + 1 + N → H1[H.size]? = some (arrV cA N (fun j => .ref (H.size + 1 + j))) → (∀ j, j < N → H1[H.size + 1 + j]? = some (arrV cI M (fun _ => .int 0))) → (∀ q, q < H.size → H1[q]? = H[q]?) → (∀ x ∈ locs1, x ∈ locs ∨ x.base = H.size) → W p l e R s m args below meth c H1 locs1 (cells + (1 + N)) (slots + (N + N * M)) Q { g with pc := g.pc + 4, stack := .ref H.size :: rest }) : W p l e R s m args below meth c H locs cells slots Q g := by
  intro T hT X
  subst hT; subst hb; subst hg
  have hpl : e.platform.magicAccessors = ({} : Platform).magicAccessors := by rw [X.admits.platform]
  obtain ⟨cI, cA, kA, hcI, -, hkA, hkindA, hnameA⟩ := arrayOverA_spec hover
  obtain ⟨cI', kC, cx, hcI', hkC, hkindC⟩ := Cond.arrayClass_spec harr
  have ec : cI' = cI := Option.some.inj (hcI'.symm.trans hcI)
  subst ec
  obtain ⟨c0, hfc0, hcl⟩ := Cond.classLink_spec hown hclink e.platform hpl
  have hs2 : "[" ++ (FieldType.array .int).toString = "[[I" := by decide
  have ecA : c0 = cA := Option.some.inj (hfc0.symm.trans (by rw [← hs2]; exact hnameA))
  subst ecA
  obtain ⟨hg₁, hwarm₁, hready₁⟩ := State.classEntry (e := e) X.warmed hcl
  generalize T.vm.noted g.method.cls index (.cls c0) = vm₁ at hg₁ hwarm₁ hready₁
  have hal : s.vm.Alike vm₁ := hwarm₁.alike
  obtain ⟨kA₁, hkA₁, heA⟩ := hal.2.2 _ _ hkA
  obtain ⟨kC₁, hkC₁, heC⟩ := hal.2.2 _ _ hkC
  have X₁ := X.noted hwarm₁
  have XF := ml_stand X₁ c0 cI' N M N
  obtain ⟨hr1, hr2⟩ := X.roomAbove hcells hslots
  obtain ⟨f1, f2, f3, f4, f5, f6⟩ := mlS_facts (s := T.setVm vm₁) (cA := c0) (cI := cI') (N := N) (M := M) N
  have eC : cells + 1 + N = cells + (1 + N) := Nat.add_assoc _ _ _
  have eS : slots + N + N * M = slots + (N + N * M) := Nat.add_assoc _ _ _
  rw [eC, eS] at XF
  obtain ⟨t, a1, b1⟩ := kk c0 cI' (mlS (T.setVm vm₁) c0 cI' N M N).heap _ hnameA hcI f1 (f2.trans (congrArg some (arrV_ext fun j hj => if_pos hj))) (fun j hj => f6 j hj) (fun q hq => f5 q hq) (fun x hx => by
    rcases List.mem_append.mp hx with h | h
    · exact Or.inl h
    · obtain ⟨j, -, rfl⟩ := List.mem_map.mp h
      exact Or.inr rfl) _ rfl XF
  refine ⟨t, ?_, b1⟩
  have hl1 : ¬ N > e.platform.arrayLengthLimit := by rw [Launch.admits_arrayLengthLimit X.admits]; omega
  have hh1 : ¬ N * componentBytes (.array .int) > e.platform.maxHeapBytes := by
    rw [Launch.admits_maxHeapBytes X.admits]; show ¬ N * 4 > 536870912; omega
  have hl2 : ¬ M > e.platform.arrayLengthLimit := by rw [Launch.admits_arrayLengthLimit X.admits]; omega
  have hh2 : ¬ M * componentBytes .int > e.platform.maxHeapBytes := by
    rw [Launch.admits_maxHeapBytes X.admits]; show ¬ M * 4 > 536870912; omega
  jvm_step X.here [hexec, hdg]
  simp only [Jvm.Op.multianewarray.sem, wp_bind', W.resolveClassAt_links (State.method?_setTop g X.here.top) hg₁]
  rw [W.popN, if_neg (by decide)]
  refine ⟨g, State.topJava?_setTop' (s := T.setVm vm₁) g X.here.top, [.int n, .int k], rest, rfl, hstack, ?_⟩
  simp only [List.mapM_cons, List.mapM_nil, wp_bind', wp_pure']
  refine ml_make (k := kA₁) (kc := kC₁) (cx := cx) hkA₁ (by rw [heA]; exact hkindA) hkC₁ (by rw [heC]; exact hkindC) hn hk hN hM hl1 hh1 hl2 hh2 (by show T.heap.size + 1 + _ ≤ _; omega) (by show T.slotsUsed + _ + _ ≤ _; omega) (fun d' acts' => ?_)
  have e2 : ((T.setTop g).setVm vm₁).setTop { g with stack := rest } = (T.setVm vm₁).setTop { g with stack := rest } := by
    show ((T.setVm vm₁).setTop g).setTop _ = _
    rw [State.setTop_setTop]
  rw [e2, mlS_top]
  simp only [wp_bind', W.mark, W.pushRef, State.topJava?_setTop' _ XF.here.top, Option.some.injEq, exists_eq_left', State.setTop_setTop, State.heap_setTop]
  intro acts
  simp [jvm, XF.here.top]
  exact a1
end MLW
