/-! WORLDS THAT GROW: c cells so far, the references that h names are set; rows for new cells and for references -/
def wP (c : Nat) (h : Nat → Nat → Bool) : xW := (c, WW.2.1, fun k j v => if h k j = true then WW.2.2 k j v else none)
def hS (h : Nat → Nat → Bool) (k j : Nat) : Nat → Nat → Bool := fun a i => (decide (a = k) && decide (i = j)) || h a i
set_option maxHeartbeats 100000 in
theorem hS_eq {h : Nat → Nat → Bool} {k j : Nat} : hS h k j k j = true := by simp [hS]
set_option maxHeartbeats 100000 in
theorem hS_ne {h : Nat → Nat → Bool} {k j a i : Nat} (e : ¬ (a = k ∧ i = j)) : hS h k j a i = h a i := by
  unfold hS
  by_cases c : a = k
  · by_cases d : i = j
    · exact absurd ⟨c, d⟩ e
    · simp [d]
  · simp [c]
/-- the walk's place with its counters at k and z -/
abbrev xat (X : xX) (k z : Nat) : xX := (X.1, X.2.1, X.2.2.1, X.2.2.2.1, X.2.2.2.2.1, X.2.2.2.2.2.1, X.2.2.2.2.2.2.1, X.2.2.2.2.2.2.2.1, X.2.2.2.2.2.2.2.2.1, X.2.2.2.2.2.2.2.2.2.1, X.2.2.2.2.2.2.2.2.2.2.1, X.2.2.2.2.2.2.2.2.2.2.2.1, k, z)
/-- what a walk with new cells stands on: all but the counters -/
def xCg (X : xX) (cc : ByteArray) (own : String) (ret : Option FieldType) (rm : Room) (nL : Nat) : Prop := ∀ k z, k ≤ rm.cells → z ≤ rm.slots → xCx (xat X k z) cc own ret rm nL
set_option maxHeartbeats 100000 in
theorem xCg_of {X : xX} {cc : ByteArray} {own : String} {ret : Option FieldType} {rm : Room} {nL : Nat} (C : xCx X cc own ret rm nL) : xCg X cc own ret rm nL := fun k z h1 h2 => by
  obtain ⟨c1, c2, c3, c4, c5, c6, c7, c8, c9, c10, c11, c12, c13, c14, c15⟩ := C
  exact ⟨c1, c2, c3, c4, c5, c6, c7, c8, c9, c10, c11, ⟨h1, h2⟩, c13, c14, c15⟩
set_option maxHeartbeats 100000 in
theorem xC_ext {E : xE} {w w' : xW} {σ σ' : xS} {k : Nat} (h1 : w'.2.1 k = w.2.1 k) (h2 : ∀ j v, w'.2.2 k j v = w.2.2 k j v) (h3 : ∀ j, σ' k j = σ k j) : xC E w σ k = xC E w' σ' k := by
  have e2 : w'.2.2 k = w.2.2 k := by funext j v; exact h2 j v
  have e3 : σ' k = σ k := by funext j; exact h3 j
  unfold xC xV
  simp only [h1, e2, e3]
set_option maxHeartbeats 100000 in
theorem wP_C {E : xE} {c c' : Nat} {h : Nat → Nat → Bool} {σ : xS} (k : Nat) : xC E (wP c h) σ k = xC E (wP c' h) σ k := xC_ext rfl (fun _ _ => rfl) (fun _ => rfl)
set_option maxHeartbeats 100000 in
theorem xws_more {E : xE} {c : Nat} {h : Nat → Nat → Bool} {σ : xS} : xws E (wP (c + 1) h) σ = xws E (wP c h) σ ++ [(E.2.2 + c, xC E (wP (c + 1) h) σ (xpi c))] := by
  show (List.range (c + 1)).map (fun i => (E.2.2 + i, xC E (wP (c + 1) h) σ (xpi i))) = (List.range c).map (fun i => (E.2.2 + i, xC E (wP c h) σ (xpi i))) ++ [(E.2.2 + c, xC E (wP (c + 1) h) σ (xpi c))]
  rw [List.range_succ, List.map_append, List.map_cons, List.map_nil]
  refine congrArg (· ++ _) (List.map_congr_left fun k _ => ?_)
  rw [wP_C (c' := c)]
def dfV (t : FieldType) : Value := match t with
  | .long => .long 0
  | .object _ => .null
  | .array _ => .null
  | _ => .int 0
def pnT (t : FieldType) : Bool := match t with
  | .float => false
  | .double => false
  | _ => true
set_option maxHeartbeats 100000 in
theorem dfV_of {t : FieldType} (h : pnT t = true) : defaultValue t = dfV t := by
  cases t <;> first | rfl | cases h
set_option maxHeartbeats 100000 in
theorem xV_new {z : Nat} {c k j : Nat} {h : Nat → Nat → Bool} {σ : xS} {t : FieldType} (h0 : h k j = false) (hσ : σ k j = 0) : xV z (wP c h) σ t k j = dfV t := by
  unfold xV dfV
  rw [hσ]
  have e : (wP c h).2.2 k j 0 = none := by
    show (if h k j = true then _ else _) = _
    rw [h0]
    rfl
  cases t <;> first | rfl | (rw [e]; rfl)
set_option maxHeartbeats 100000 in
/-- a cell more, at the end -/
theorem xRel_more {E : xE} {c m : Nat} (hcm : xqi c = m) (h185 : m < 185) {h : Nat → Nat → Bool} {σ : xS} {H0 H H1 : Heap} {locs : List Loc} (hR : xRel E (wP m h) σ H0 H locs) (hsz : H.size = E.2.2 + m) (z1 : H1.size = H.size + 1) (o1 : ∀ q, q < H.size → H1[q]? = H[q]?) (hc : va_at E.1 vwCl (xqa E.2.2 c, xC E (wP (m + 1) h) σ c) H1) : xRel E (wP (m + 1) h) σ H0 H1 locs := by
  obtain ⟨hP, hz, hS⟩ := hR
  have hk : ∀ (k : Nat) (x : Nat × va_E), (xws E (wP m h) σ)[k]? = some x → H1[x.1]? = H[x.1]? := fun k x hx => o1 x.1 ((hP k x hx).lt)
  refine ⟨?_, ⟨⟨by rw [z1, hsz]; exact Nat.le_of_eq (Nat.add_assoc _ _ _).symm, h185⟩, fun _ => by rw [z1, hsz]; exact Nat.add_assoc _ _ _⟩, ⟨Nat.le_trans hS.1 (by omega), fun x h1 h2 => (o1 x (Nat.lt_of_lt_of_le h1 hS.1)).trans (hS.2.1 x h1 h2), hS.2.2⟩⟩
  rw [xws_more]
  refine (hP.kept hk).app (fun k x hx => ?_)
  have hz : k < 1 := (List.getElem?_eq_some_iff.mp hx).1
  rw [show k = 0 by omega] at hx
  cases hx
  have e1 : xpi m = c := by rw [← hcm, xpq]
  rw [e1, show E.2.2 + m = xqa E.2.2 c by rw [← hcm]; rfl]
  exact hc
set_option maxHeartbeats 100000 in
theorem arrV_ext {cA : ClassId} {n : Nat} {f g : Nat → Value} (h : ∀ j, j < n → f j = g j) : arrV cA n f = arrV cA n g := by
  unfold arrV
  congr 2
  funext j
  exact h j.val j.isLt
set_option maxHeartbeats 100000 in
/-- a world's cell set, its references too -/
theorem xRel_putW {E : xE} {w w' : xW} {σ σ' : xS} {H H1 H0 : Heap} {locs : List Loc} {k i : Nat} {e : va_E} (hR : xRel E w σ H0 H locs) (hw : w'.1 = w.1) (hk : xqi k < w.1) (he : va_at E.1 vwCl (xqa E.2.2 k, e) H1) (hx : e = xC E w' σ' k) (ho : ∀ k', k' ≠ k → xC E w σ k' = xC E w' σ' k') (z : H1.size = H.size) (oq : ∀ q : Nat, q ≠ xqa E.2.2 k → H1[q]? = H[q]?) : xRel E w' σ' H0 H1 (locs ++ [⟨xqa E.2.2 k, i⟩]) := by
  refine ⟨?_, by rw [z]; unfold xSz; rw [hw]; exact hR.2.1, hR.2.2.put z oq (xA_of hk hR.2.1.1.2)⟩
  have e1 := xws_set2 (w := w) (w' := w') hw hx ho
  rw [← e1]
  exact hR.1.set (xws_D _ _ _ hR.2.1.1.2) (xws_get hk) he oq
set_option maxHeartbeats 100000 in
theorem wP_ho {E : xE} {c k0 j : Nat} {h : Nat → Nat → Bool} {σ σ' : xS} (hσ : ∀ a i, ¬ (a = k0 ∧ i = j) → σ' a i = σ a i) : ∀ k', k' ≠ k0 → xC E (wP c h) σ k' = xC E (wP c (hS h k0 j)) σ' k' := fun k' hk' =>
  xC_ext rfl (fun i v => by show (if hS h k0 j k' i = true then _ else _) = _; rw [hS_ne (fun q => hk' q.1)]; rfl) (fun i => hσ k' i (fun q => hk' q.1))
section GROW
variable {ρ : Type} {X : xX} {Qf : ρ → State → Prop} {cc : ByteArray} {own : String} {ret : Option FieldType} {rm : Room} {nL : Nat} {σ : xS} {pc k z c m : Nat} {h : Nat → Nat → Bool} {L : List (Nat × Value)} {st : List Value} {o : Option ρ}
set_option maxHeartbeats 100000 in
theorem x_newO (hcm : xqi c = m) (Cg : xCg X cc own ret rm nL) {ci N index : Nat} {Cn : String} {T : u_T} {ty : Nat → FieldType} (K : xCls ci Cn T N ty) (hsh : WW.2.1 c = (20 + ci, N)) (h0 : ∀ j, j < N → h c j = false) (hσ : ∀ j, j < N → σ c j = 0) (hp : ∀ j, j < N → pnT (ty j) = true) (hfl : (xXE X).2.1.2.2 9 0 = 0) (hcl : Cond.classLink own index Cn ∈ GW) (hin : Cond.instantiable Cn N ∈ GW) (hini : Cond.initialized Cn ∈ GW) (d : decode cc pc = .ok (.new index, 3)) (h1 : k + 1 ≤ rm.cells) (h2 : z + N ≤ rm.slots)
    (kk : WO (xat X (k + 1) (z + N)) Qf (wP (m + 1) h) σ (pc + 3) L (.ref (xqa (xXE X).2.2 c) :: st) o) (h185 : m < 185 := by omega) : WO (xat X k z) Qf (wP m h) σ pc L st o := by
  intro r hr H locs hR ls hl
  have C := Cg k z (by omega) (by omega)
  have hsz0 := hR.2.1.2 hfl
  have hsz : H.size = xqa (xXE X).2.2 c := by rw [hsz0]; show _ + m = _; rw [← hcm]; rfl
  have hKn := C.2.2.2.2.2.1.1 ci _ K.1
  have hRm : xXR X = rm := C.2.2.2.2.2.2.2.2.2.1
  refine W.newcK C.1 C.2.1 C.2.2.2.1 (C.2.2.2.2.1 _ hcl) (C.2.2.2.2.1 _ hin) (C.2.2.2.2.1 _ hini) rfl d (by show k + 1 ≤ (xXR X).cells; rw [hRm]; exact h1) (by show z + N ≤ (xXR X).slots; rw [hRm]; exact h2) hKn.2.1 rfl fun H1 kC hkC e1 z1 o1 => ?_
  have hR1 : xRel (xXE X) (wP (m + 1) h) σ (xXs X).heap H1 locs := by
    refine xRel_more hcm h185 hR hsz0 z1 o1 ?_
    rw [xC_obj (w := wP (m + 1) h) (ci := ci) (n := N) hsh, ← hsz]
    refine ⟨_, K.1, (u_born ty C.2.2.2.2.1 K.2.1 hKn hkC e1 K.2.2.1).to (fun j hj => ?_)⟩
    rw [dfV_of (hp j hj), K.2.2.2.2]
    rw [← xV_new (z := (xXE X).2.2) (c := m + 1) (h0 j hj) (hσ j hj)]
    simp [vp_V, hj]
  have := kk r hr H1 locs hR1 ls hl
  rw [hsz]
  exact this
/-- a primitive row more: kinds 0 to 3 -/
def kdT (q : Nat) : FieldType := match q with
  | 0 => .int
  | 1 => .long
  | 2 => .byte
  | _ => .boolean
set_option maxHeartbeats 100000 in
theorem kdB {q : Nat} (h : q < 4) : componentBytes (kdT q) ≤ 8 := by
  rcases (show q = 0 ∨ q = 1 ∨ q = 2 ∨ q = 3 by omega) with rfl | rfl | rfl | rfl <;> decide
set_option maxHeartbeats 100000 in
theorem x_newA (hcm : xqi c = m) (Cg : xCg X cc own ret rm nL) {q n : Nat} {v : Int} {atype : ArrayType} (hq : q < 4) (hsh : WW.2.1 c = (q, n)) (hσ : ∀ j, j < n → σ c j = 0) (hfl : (xXE X).2.1.2.2 9 0 = 0) (hw : Cond.arrayClass (newarray.typeOf atype) ∈ GW) (ht : newarray.typeOf atype = kdT q) (hv : Int32.ofInt v = Int32.ofNat n) (hn : n < 100000) (d : decode cc pc = .ok (.newarray atype, 2)) (h1 : k + 1 ≤ rm.cells) (h2 : z + n ≤ rm.slots)
    (kk : WO (xat X (k + 1) (z + n)) Qf (wP (m + 1) h) σ (pc + 2) L (.ref (xqa (xXE X).2.2 c) :: st) o) (h185 : m < 185 := by omega) : WO (xat X k z) Qf (wP m h) σ pc L (iV v :: st) o := by
  intro r hr H locs hR ls hl
  have C := Cg k z (by omega) (by omega)
  have hsz0 := hR.2.1.2 hfl
  have hsz : H.size = xqa (xXE X).2.2 c := by rw [hsz0]; show _ + m = _; rw [← hcm]; rfl
  have hRm : xXR X = rm := C.2.2.2.2.2.2.2.2.2.1
  have hcl : (Int32.ofInt v).toNatClampNeg = n := by
    rw [hv]
    exact nI_clamp (by omega)
  refine va_newaK C.1 C.2.1 (C.2.2.2.2.1 _ hw) rfl d rfl (by rw [hv]; exact Int32.not_lt.mpr (nI_pos' (by omega))) hcl (by rw [ht]; exact Nat.le_trans (Nat.mul_le_mul_left n (kdB hq)) (by omega)) (by show k + 1 ≤ (xXR X).cells; rw [hRm]; exact h1) (by show z + n ≤ (xXR X).slots; rw [hRm]; exact h2) rfl fun H1 cA e1 z1 o1 hAr hNm => ?_
  have hcA : cA = (xXE X).2.1.1 q := by
    rcases (show q = 0 ∨ q = 1 ∨ q = 2 ∨ q = 3 by omega) with rfl | rfl | rfl | rfl
    · have := (C.2.2.2.2.2.1.2 0 _ rfl).2
      rw [ht] at hNm
      exact Option.some.inj (hNm.symm.trans this)
    · have := (C.2.2.2.2.2.1.2 1 _ rfl).2
      rw [ht] at hNm
      exact Option.some.inj (hNm.symm.trans this)
    · have := (C.2.2.2.2.2.1.2 2 _ rfl).2
      rw [ht] at hNm
      exact Option.some.inj (hNm.symm.trans this)
    · have := (C.2.2.2.2.2.1.2 3 _ rfl).2
      rw [ht] at hNm
      exact Option.some.inj (hNm.symm.trans this)
  have hR1 : xRel (xXE X) (wP (m + 1) h) σ (xXs X).heap H1 locs := by
    refine xRel_more hcm h185 hR hsz0 z1 o1 ?_
    rw [ht] at e1
    subst hcA
    rcases (show q = 0 ∨ q = 1 ∨ q = 2 ∨ q = 3 by omega) with rfl | rfl | rfl | rfl
    · rw [xC_0 (w := wP (m + 1) h) (n := n) hsh, ← hsz]
      show H1[H.size]? = some (vp_cell _ _)
      rw [e1, vp_cell_i]
      exact congrArg some (arrV_ext fun j hj => by rw [hσ j hj]; rfl)
    · rw [xC_1 (w := wP (m + 1) h) (n := n) hsh, ← hsz]
      show H1[H.size]? = some (vp_cell _ _)
      rw [e1, vp_cell_l]
      exact congrArg some (arrV_ext fun j hj => by rw [hσ j hj]; rfl)
    · rw [xC_2 (w := wP (m + 1) h) (n := n) hsh, ← hsz]
      show H1[H.size]? = some (vp_cell _ _)
      rw [e1, vp_cell_i]
      exact congrArg some (arrV_ext fun j hj => by rw [hσ j hj]; rfl)
    · rw [xC_3 (w := wP (m + 1) h) (n := n) hsh, ← hsz]
      show H1[H.size]? = some (vp_cell _ _)
      rw [e1, vp_cell_i]
      exact congrArg some (arrV_ext fun j hj => by rw [hσ j hj]; rfl)
  have := kk r hr H1 locs hR1 ls hl
  rw [hsz]
  exact this
set_option maxHeartbeats 100000 in
/-- a row of references more -/
theorem x_newQ (hcm : xqi c = m) (Cg : xCg X cc own ret rm nL) {q n index : Nat} {v : Int} {Cn : String} (hq : 4 ≤ q ∧ q < 8) (hx : (xtys (xXE X).2.1.1)[q]? = some ((xXE X).2.1.1 q, .object Cn)) (hsh : WW.2.1 c = (q, n)) (h0 : ∀ j, j < n → h c j = false) (hfl : (xXE X).2.1.2.2 9 0 = 0) (hcl : Cond.classLink own index Cn ∈ GW) (hov : va_AO Cn (xXs X)) (hv : Int32.ofInt v = Int32.ofNat n) (hn : n < 100000) (d : decode cc pc = .ok (.anewarray index, 3)) (h1 : k + 1 ≤ rm.cells) (h2 : z + n ≤ rm.slots)
    (kk : WO (xat X (k + 1) (z + n)) Qf (wP (m + 1) h) σ (pc + 3) L (.ref (xqa (xXE X).2.2 c) :: st) o) (h185 : m < 185 := by omega) : WO (xat X k z) Qf (wP m h) σ pc L (iV v :: st) o := by
  intro r hr H locs hR ls hl
  have C := Cg k z (by omega) (by omega)
  have hsz0 := hR.2.1.2 hfl
  have hsz : H.size = xqa (xXE X).2.2 c := by rw [hsz0]; show _ + m = _; rw [← hcm]; rfl
  have hRm : xXR X = rm := C.2.2.2.2.2.2.2.2.2.1
  have hcn : (Int32.ofInt v).toNatClampNeg = n := by
    rw [hv]
    exact nI_clamp (by omega)
  refine W.anew C.1 C.2.1 C.2.2.2.1 (C.2.2.2.2.1 _ hcl) (va_AO.use hov) rfl d rfl (by rw [hv]; exact Int32.not_lt.mpr (nI_pos' (by omega))) (by rw [hcn]; omega) (by show k + 1 ≤ (xXR X).cells; rw [hRm]; exact h1) (by show z + _ ≤ (xXR X).slots; rw [hRm, hcn]; exact h2) fun cA kA comp f1 f2 f3 f4 => ?_
  rw [hcn]
  obtain ⟨_, _, _, _, _, g4⟩ := (C.2.2.2.2.2.1.2 q _ hx).2
  have hcA : cA = (xXE X).2.1.1 q := Option.some.inj (f1.symm.trans g4)
  subst hcA
  generalize hH1 : H.push ({ cls := (xXE X).2.1.1 q, slots := Array.replicate n .null, vm := .none } : Cell) = H1
  have z1 : H1.size = H.size + 1 := by rw [← hH1, Array.size_push]
  have e1 : H1[H.size]? = some (arrV ((xXE X).2.1.1 q) n (fun _ => .null)) := by rw [← hH1, Array.getElem?_push_size, ← arrV_new]
  have o1 : ∀ q : Nat, q < H.size → H1[q]? = H[q]? := fun q hq => by rw [← hH1, Array.getElem?_push, if_neg (Nat.ne_of_lt hq)]
  have hR1 : xRel (xXE X) (wP (m + 1) h) σ (xXs X).heap H1 locs := by
    refine xRel_more hcm h185 hR hsz0 z1 o1 ?_
    rw [xC_r (w := wP (m + 1) h) (n := n) ⟨hq.1, by omega⟩ hsh, ← hsz]
    show H1[H.size]? = some (vp_cell _ _)
    rw [e1, vp_cell_q]
    refine congrArg some (arrV_ext fun j hj => ?_)
    have e : (wP (m + 1) h).2.2 c j (σ c j) = none := by
      show (if h c j = true then _ else _) = _
      rw [h0 j hj]
      rfl
    rw [e]
    rfl
  have := kk r hr H1 locs hR1 ls hl
  rw [hsz]
  exact this
set_option maxHeartbeats 100000 in
/-- a reference set in an object -/
theorem x_putR (Cg : xCg X cc own ret rm nL) {ci N index k0 j a : Nat} {σ' : xS} {Cn ref : String} {T : u_T} {ty : Nat → FieldType} (hkr : k ≤ rm.cells ∧ z ≤ rm.slots) (K : xCls ci Cn T N ty) (hk : xqi k0 < c) (hsh : WW.2.1 k0 = (20 + ci, N)) (hj : j < N) (hlink : Cond.fieldLink own index ref (T j).2.1 (T j).2.2.1 ∈ GW) (href : (T j).1 = ref) (hfin : (T j).2.2.2 = false ∨ ((T j).2.2.2 = true ∧ (T j).1 = own ∧ (xXd X).name = "<init>")) (hty : (ty j).isReference = true) (hr : WW.2.2 k0 j (σ' k0 j) = some a) (hσ : ∀ a i, ¬ (a = k0 ∧ i = j) → σ' a i = σ a i) (d : decode cc pc = .ok (.putfield index, 3))
    (kk : WO (xat X k z) Qf (wP c (hS h k0 j)) σ' (pc + 3) L st o) : WO (xat X k z) Qf (wP c h) σ pc L (.ref (xqa (xXE X).2.2 a) :: .ref (xqa (xXE X).2.2 k0) :: st) o := by
  intro r hro H locs hR ls hl
  have C := Cg k z hkr.1 hkr.2
  subst href
  have hap := va_apart (own := own) (cl := vwCl) C.2.2.2.2.1 K.2.1 ty K.2.2.1 K.2.2.2.1 C.2.2.2.2.2.1 K.1
  obtain ⟨r0, h1, cell, q1, q2, q3, q4⟩ := hR.1 (xqi k0) _ ((xws_get (w := wP c h) hk).trans (by rw [xC_obj (w := wP c h) (ci := ci) (n := N) hsh]))
  have hr0 : r0 = (Cn, T, N) := Option.some.inj (h1.symm.trans K.1)
  subst hr0
  obtain ⟨hS', hfc, kC, hkC, hkind⟩ := C.2.2.2.2.2.1.1 ci _ K.1
  obtain ⟨cf, kf, fi, f, hi, hsl⟩ := hS' j hj
  have hlay := C.2.2.2.2.1 _ (K.2.1 _ (u_in_lay hj))
  unfold u_lay at hlay
  have hst := (u_facts hfc hkC (u_lays C.2.2.2.2.1 K.2.1 hj) hi).1
  have hnar : narrow (ty j) (.ref (xqa (xXE X).2.2 a)) = .ref (xqa (xXE X).2.2 a) := by
    cases htj : ty j <;> first | rfl | (rw [htj] at hty; cases hty)
  have hft : fits (ty j) (.ref (xqa (xXE X).2.2 a)) = true := by
    cases htj : ty j <;> first | rfl | (rw [htj] at hty; cases hty)
  have hval : xV (xXE X).2.2 (wP c (hS h k0 j)) σ' (ty j) k0 j = .ref (xqa (xXE X).2.2 a) := by
    have e : (wP c (hS h k0 j)).2.2 k0 j (σ' k0 j) = some a := by
      show (if hS h k0 j k0 j = true then _ else _) = _
      rw [hS_eq]
      exact hr
    unfold xV
    rw [e]
    cases htj : ty j <;> first | rfl | (rw [htj] at hty; cases hty)
  have hxc : Sum.inr (ci, ((List.range N).map (fun i => xV (xXE X).2.2 (wP c h) σ (xFT ci i) k0 i)).set j (.ref (xqa (xXE X).2.2 a))) = xC (xXE X) (wP c (hS h k0 j)) σ' k0 := by
    rw [xC_obj (w := wP c (hS h k0 j)) hsh]
    refine congrArg (fun q => Sum.inr (ci, q)) (xfs_set (by rw [K.2.2.2.2]; exact hval) (fun i hi => ?_))
    unfold xV
    rw [hσ k0 i (fun q => hi q.2)]
    have e : (wP c (hS h k0 j)).2.2 k0 i = (wP c h).2.2 k0 i := by
      funext v
      show (if hS h k0 j k0 i = true then _ else _) = _
      rw [hS_ne (fun q => hi q.2)]
      rfl
    rw [e]
  have fin : ∀ H1 : Heap, H1[xqa (xXE X).2.2 k0]? = some (cell.setSlot ((xXE X).1.2 ci j) (.ref (xqa (xXE X).2.2 a))) → H1.size = H.size → (∀ q : Nat, q ≠ xqa (xXE X).2.2 k0 → H1[q]? = H[q]?) → W (xXp X) (xXl X) (xXe X) (xXR X) (xXs X) (xXm X) (xXa X) (xXb X) (xXd X) (xXc X) H1 (locs ++ [⟨xqa (xXE X).2.2 k0, (xXE X).1.2 ci j⟩]) k z (Qf r) (F0 (xXm X) (pc + 3) ls st) := fun H1 e1 e2 e3 =>
    kk r hro H1 _ (xRel_putW hR rfl hk (e := .inr (ci, ((List.range N).map (fun i => xV (xXE X).2.2 (wP c h) σ (xFT ci i) k0 i)).set j (.ref (xqa (xXE X).2.2 a)))) ⟨_, K.1, t_OB.to (V := updV (vp_V _) j (.ref (xqa (xXE X).2.2 a))) ⟨_, e1, q2, q3, t_set q4 hap hj _⟩ (fun i _ => vp_updV_set (by simpa using hj) _ i)⟩ hxc (wP_ho hσ) e2 e3) ls hl
  rcases hfin with hfin | ⟨hfin, hown, hini⟩
  · rw [if_neg (by rw [hfin]; decide)] at hlay
    have h6 := u_store hfc hkC hkind hlay hi (K.2.2.1 j hj) hnar hft
    refine W.putK C.1 C.2.1 (f := f) ⟨C.2.2.2.1, C.2.2.2.2.1 _ hlink, ⟨_, _, _, hi⟩, hst⟩ (by rw [q2]; exact h6) q1 q3 (by rw [hsl]; exact k2_hasslot (q4 j hj)) rfl rfl d fun H' e1 e2 e3 => ?_
    rw [hsl] at e1 ⊢
    exact fin H' e1 e2 e3
  · rw [if_pos hfin] at hlay
    have hcf : (xXm X).cls = cf := by
      obtain ⟨_, _, c', _, _, _, -, -, hf', -, -, -, hown2, -⟩ := Cond.laysFinal_spec hlay
      have e1 : c' = cf := by have := hi.symm.trans hf'; simp at this; exact this.1.symm
      rw [hown] at hown2
      rw [← e1]; exact Option.some.inj (C.2.2.2.1.symm.trans hown2)
    have h6 := u_fits hfc hkC hkind (Or.inr hlay) hi (K.2.2.1 j hj) hnar hft
    refine W.putFinK C.1 C.2.1 C.2.2.2.1 (C.2.2.2.2.1 _ hlink) hi hst hcf hini (by rw [q2]; exact h6) q1 q3 (by rw [hsl]; exact k2_hasslot (q4 j hj)) rfl rfl d fun H' e1 e2 e3 => ?_
    rw [hsl] at e1 ⊢
    exact fin H' e1 e2 e3
set_option maxHeartbeats 100000 in
/-- a reference set in a row -/
theorem x_astR (Cg : xCg X cc own ret rm nL) {q n ci N k0 a i : Nat} {v : Int} {T : u_T} {Cn : String} {ty : Nat → FieldType} (hkr : k ≤ rm.cells ∧ z ≤ rm.slots) (K : xCls ci Cn T N ty) (hq : 4 ≤ q ∧ q < 8) (hx : (xtys (xXE X).2.1.1)[q]? = some ((xXE X).2.1.1 q, .object Cn)) (hk : xqi k0 < c) (hsh : WW.2.1 k0 = (q, n)) (ha : xqi a < c) (hsa : WW.2.1 a = (20 + ci, N)) (hv : Int32.ofInt v = Int32.ofNat i) (hi : i < n) (hn : n < 100000) (hr : WW.2.2 k0 i (σ k0 i) = some a) (d : decode cc pc = .ok (.aastore, 1))
    (kk : WO (xat X k z) Qf (wP c (hS h k0 i)) σ (pc + 1) L st o) : WO (xat X k z) Qf (wP c h) σ pc L (.ref (xqa (xXE X).2.2 a) :: iV v :: .ref (xqa (xXE X).2.2 k0) :: st) o := by
  intro r hro H locs hR ls hl
  have C := Cg k z hkr.1 hkr.2
  have hcn : (Int32.ofInt v).toNatClampNeg = i := by
    rw [hv]
    exact nI_clamp (by omega)
  obtain ⟨r', hr', cellV, g1, g2, g3, -⟩ := hR.1 (xqi a) _ ((xws_get (w := wP c h) ha).trans (by rw [xC_obj (w := wP c h) (ci := ci) (n := N) hsa]))
  have hr0 : r' = (Cn, T, N) := Option.some.inj (hr'.symm.trans K.1)
  subst hr0
  have hcls := (C.2.2.2.2.2.1.1 ci _ K.1).2
  obtain ⟨kA, comp, k1, k2, k3, -⟩ := (C.2.2.2.2.2.1.2 q _ hx).2
  have hcomp : comp = (xXE X).1.1 ci := Option.some.inj (k3.symm.trans hcls.1)
  subst hcomp
  obtain ⟨kC, hkC, -⟩ := hcls.2
  have hat0 := hR.1 (xqi k0) _ (xws_get (w := wP c h) hk)
  rw [xC_r (w := wP c h) (n := n) ⟨hq.1, by omega⟩ hsh] at hat0
  have hat : H[xqa (xXE X).2.2 k0]? = some (vp_cell ((xXE X).2.1.1 q) (n, .inr (.inr (.inr (.inr (fun j => ((wP c h).2.2 k0 j (σ k0 j)).map (xqa (xXE X).2.2))))))) := hat0
  refine W.aast C.1 C.2.1 hat (fun q h => by cases h) (fun h => by cases h) k1 k2 rfl hkC ⟨by rw [hv]; exact Int32.not_lt.mpr (nI_pos' (by omega)), by rw [hcn]; show _ < (arrV _ _ _).slots.size; rw [arrV_size]; exact hi⟩ g1 (fun q h => by rw [g3] at h; cases h) (by rw [g2]; exact hkC) (by rw [g2]; exact va_assign hcls) rfl rfl d fun H1 e z1 oq => ?_
  rw [hcn] at e ⊢
  refine kk r hro H1 _ (xRel_putW hR rfl hk (e := xC (xXE X) (wP c (hS h k0 i)) σ k0) ?_ rfl (wP_ho (fun _ _ _ => rfl)) z1 oq) ls hl
  rw [xC_r (w := wP c (hS h k0 i)) ⟨hq.1, by omega⟩ hsh]
  show H1[_]? = some (vp_cell _ _)
  rw [e, vp_cell_q, vp_cell_q, arrV_store]
  refine congrArg some (arrV_ext fun j hj => ?_)
  by_cases hji : j = i
  · subst hji
    have e : (wP c (hS h k0 j)).2.2 k0 j (σ k0 j) = some a := by
      show (if hS h k0 j k0 j = true then _ else _) = _
      rw [hS_eq]
      exact hr
    rw [e]
    simp [updV, va_rf]
  · have e : (wP c (hS h k0 i)).2.2 k0 j (σ k0 j) = (wP c h).2.2 k0 j (σ k0 j) := by
      show (if hS h k0 i k0 j = true then _ else _) = _
      rw [hS_ne (fun q => hji q.2)]
      rfl
    rw [e]
    simp [updV, hji]
set_option maxHeartbeats 100000 in
/-- Object's constructor -/
theorem x_objI (C : xCx X cc own ret rm nL) {w : xW} {index a : Nat} (hlink : Cond.methodLink own index Lib.objectInit ∈ GW) (hf : 1 ≤ rm.frames) (hcat : (st.map fun v => v.category).sum ≤ 8) (hloc : 20 ≤ rm.locals) (d : decode cc pc = .ok (.invokespecial index, 3)) (kk : WO X Qf w σ (pc + 3) L st o) : WO X Qf w σ pc L (.ref (xqa (xXE X).2.2 a) :: st) o := by
  intro r hro H locs hR ls hl
  have hRm : xXR X = rm := C.2.2.2.2.2.2.2.2.2.1
  have hlr := lv_room (m := xXm X) (pc := pc) (ls := ls) (rest := .ref (xqa (xXE X).2.2 a) :: st) hcat
  refine W.objInit C.1 C.2.1 C.2.2.2.1 (C.2.2.2.2.1 _ hlink) (C.2.2.2.2.1 _ wd86) (C.2.2.2.2.1 _ wd87) rfl ?_ rfl d (by rw [hRm]; exact hf) (by rw [hRm]; omega) (kk r hro H locs hR ls hl)
  rw [C.2.2.1]
  exact hl.1.trans C.2.2.2.2.2.2.2.2.2.2.1
end GROW
