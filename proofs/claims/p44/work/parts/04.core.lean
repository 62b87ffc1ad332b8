/-! THE CORE: a state is two functions of numbers (ints, longs) by cell and place; cells lie one behind another from the base; the references are a fixed function. One row an instruction over such states; the answer o of the pure function goes along. -/
abbrev xS : Type := Nat → Nat → Int
def iV (x : Int) : Value := .int (Int32.ofInt x)
def jV (x : Int) : Value := .long (Int64.ofInt x)
def zI (x : Int) : Int := (Int32.ofInt x).toInt
def zJ (x : Int) : Int := (Int64.ofInt x).toInt
def zand (x y : Int) : Int := (Int32.ofInt x &&& Int32.ofInt y).toInt
def zor (x y : Int) : Int := (Int32.ofInt x ||| Int32.ofInt y).toInt
def zxor (x y : Int) : Int := (Int32.ofInt x ^^^ Int32.ofInt y).toInt
def zshl (x y : Int) : Int := (Int32.ofInt x <<< (Int32.ofInt y &&& 31)).toInt
def zshr (x y : Int) : Int := (Int32.ofInt x >>> (Int32.ofInt y &&& 31)).toInt
def zushr (x y : Int) : Int := (((Int32.ofInt x).toUInt32 >>> ((Int32.ofInt y).toUInt32 &&& Int32.toUInt32 31)).toInt32).toInt
def zlshl (x y : Int) : Int := (Int64.ofInt x <<< ((Int32.ofInt y).toInt64 &&& 63)).toInt
def zcmp (x y : Int) : Int := (lg_cmp (Int64.ofInt x) (Int64.ofInt y)).toInt
def zb (x : Int) : Int := (vp_nar .byte (Int32.ofInt x)).toInt
def zz (x : Int) : Int := (vp_nar .boolean (Int32.ofInt x)).toInt
def zi2b (x : Int) : Int := ((Int32.ofInt x).toInt8.toInt32).toInt
def zi2c (x : Int) : Int := (((Int32.ofInt x).toUInt32 % 65536).toInt32).toInt
theorem zI_eq {n : Int} (h1 : -2147483648 ≤ n) (h2 : n < 2147483648) : zI n = n := Int32.toInt_ofInt_of_le h1 h2
theorem zJ_eq {n : Int} (h1 : -9223372036854775808 ≤ n) (h2 : n < 9223372036854775808) : zJ n = n := Int64.toInt_ofInt_of_le h1 h2
theorem zIl (n : Int) (h : (decide (-2147483648 ≤ n) && decide (n < 2147483648)) = true) : zI n = n := by
  simp only [Bool.and_eq_true, decide_eq_true_eq] at h
  exact zI_eq h.1 h.2
theorem zI_lo (n : Int) : -2147483648 ≤ zI n := Int32.le_toInt _
theorem zI_hi (n : Int) : zI n < 2147483648 := Int32.toInt_lt _
theorem ofI_nI (n : Int) : Int32.ofInt (zI n) = Int32.ofInt n := Int32.ofInt_toInt _
theorem zI_nI (n : Int) : zI (zI n) = zI n := by unfold zI; rw [Int32.ofInt_toInt]
/-- how many cells; their kinds and lengths; the references (by cell, place and the int kept there) -/
abbrev xW : Type := Nat × (Nat → Nat × Nat) × (Nat → Nat → Int → Option Nat)
abbrev xE : Type := va_G × ((Nat → ClassId) × (State → Heap → Prop) × (Nat → Nat → Nat)) × Nat
abbrev xX : Type := Program × Launch × Env × Room × State × MethodId × Array Value × List Frame × Method × Code × xE × Nat × Nat × Nat
abbrev xXp (X : xX) : Program := X.1
abbrev xXl (X : xX) : Launch := X.2.1
abbrev xXe (X : xX) : Env := X.2.2.1
abbrev xXR (X : xX) : Room := X.2.2.2.1
abbrev xXs (X : xX) : State := X.2.2.2.2.1
abbrev xXm (X : xX) : MethodId := X.2.2.2.2.2.1
abbrev xXa (X : xX) : Array Value := X.2.2.2.2.2.2.1
abbrev xXb (X : xX) : List Frame := X.2.2.2.2.2.2.2.1
abbrev xXd (X : xX) : Method := X.2.2.2.2.2.2.2.2.1
abbrev xXc (X : xX) : Code := X.2.2.2.2.2.2.2.2.2.1
abbrev xXE (X : xX) : xE := X.2.2.2.2.2.2.2.2.2.2.1
abbrev xXn (X : xX) : Nat := X.2.2.2.2.2.2.2.2.2.2.2.1
abbrev xXk (X : xX) : Nat := X.2.2.2.2.2.2.2.2.2.2.2.2.1
abbrev xXz (X : xX) : Nat := X.2.2.2.2.2.2.2.2.2.2.2.2.2
def xFT : Nat → Nat → FieldType := fun ci => match ci with
  | 0 => tyX1 | 1 => tyX2 | 2 => tyX3 | 3 => tyX4 | 4 => tyX5 | 5 => tyX6 | 6 => tyX7 | 7 => tyX8 | 8 => tyX9 | 9 => tyX10 | 10 => tyX12 | 11 => tyJ0 | _ => tyJ4
/-- where the cell k lies behind the base: the cell 216 (a row of no bytes that the scanner's constructor makes) is the fifth, those from 4 on come behind it -/
def xqi (k : Nat) : Nat := if k < 4 then k else if k = 216 then 4 else if k < 216 then k + 1 else k
/-- which cell is the i-th -/
def xpi (i : Nat) : Nat := if i < 4 then i else if i = 4 then 216 else if i < 217 then i - 1 else i
def xqa (z k : Nat) : Nat := z + xqi k
theorem xpq (k : Nat) : xpi (xqi k) = k := by
  unfold xpi xqi
  repeat' split
  all_goals omega
theorem xqp (i : Nat) : xqi (xpi i) = i := by
  unfold xpi xqi
  repeat' split
  all_goals omega
theorem xqi_inj {a b : Nat} (h : xqi a = xqi b) : a = b := by rw [← xpq a, ← xpq b, h]
theorem xqi_le (k : Nat) : xqi k ≤ k + 1 := by
  unfold xqi
  repeat' split
  all_goals omega
theorem xqi_up {k : Nat} (h : 4 ≤ k) (h2 : k < 216) : xqi k = k + 1 := by
  unfold xqi
  rw [if_neg (by omega), if_neg (by omega), if_pos h2]
theorem xqa_ge (z k : Nat) : z ≤ xqa z k := Nat.le_add_right _ _
def xV (z : Nat) (w : xW) (σ : xS) (t : FieldType) (k j : Nat) : Value := match t with
  | .long => .long (Int64.ofInt (σ k j))
  | .object _ => va_rf ((w.2.2 k j (σ k j)).map (xqa z))
  | .array _ => va_rf ((w.2.2 k j (σ k j)).map (xqa z))
  | _ => .int (Int32.ofInt (σ k j))
def xC (E : xE) (w : xW) (σ : xS) (k : Nat) : va_E :=
  match (w.2.1 k).1 with
  | 0 => .inl (E.2.1.1 0, (w.2.1 k).2, .inl (fun j => Int32.ofInt (σ k j)))
  | 1 => .inl (E.2.1.1 1, (w.2.1 k).2, .inr (.inl (fun j => Int64.ofInt (σ k j))))
  | 2 => .inl (E.2.1.1 2, (w.2.1 k).2, .inl (fun j => Int32.ofInt (σ k j)))
  | 3 => .inl (E.2.1.1 3, (w.2.1 k).2, .inl (fun j => Int32.ofInt (σ k j)))
  | 4 => .inl (E.2.1.1 4, (w.2.1 k).2, .inr (.inr (.inr (.inr (fun j => (w.2.2 k j (σ k j)).map (xqa E.2.2))))))
  | 5 => .inl (E.2.1.1 5, (w.2.1 k).2, .inr (.inr (.inr (.inr (fun j => (w.2.2 k j (σ k j)).map (xqa E.2.2))))))
  | 6 => .inl (E.2.1.1 6, (w.2.1 k).2, .inr (.inr (.inr (.inr (fun j => (w.2.2 k j (σ k j)).map (xqa E.2.2))))))
  | 7 => .inl (E.2.1.1 7, (w.2.1 k).2, .inr (.inr (.inr (.inr (fun j => (w.2.2 k j (σ k j)).map (xqa E.2.2))))))
  | c => .inr (c - 20, (List.range (w.2.1 k).2).map (fun j => xV E.2.2 w σ (xFT (c - 20) j) k j))
def xws (E : xE) (w : xW) (σ : xS) : va_W := (List.range w.1).map (fun i => (E.2.2 + i, xC E w σ (xpi i)))
def xtys (cA : Nat → ClassId) : List (ClassId × FieldType) := [(cA 0, .int), (cA 1, .long), (cA 2, .byte), (cA 3, .boolean), (cA 4, .array .int), (cA 5, .object RX2), (cA 6, .object RX6), (cA 7, .object RX5)]
def xK (E : xE) (U : State) : Prop := va_K E.1 vwCl (xtys E.2.1.1) U
def xA (E : xE) : Nat → Prop := fun q => E.2.2 ≤ q ∧ q < E.2.2 + 185
def xSz (E : xE) (w : xW) (n : Nat) : Prop := (E.2.2 + w.1 ≤ n ∧ w.1 ≤ 185) ∧ (E.2.1.2.2 9 0 = 0 → n = E.2.2 + w.1)
def xRel (E : xE) (w : xW) (σ : xS) (H0 H : Heap) (locs : List Loc) : Prop := va_P E.1 vwCl (xws E w σ) H ∧ xSz E w H.size ∧ va_S (xA E) H0 H locs
/-- the state with one int, one long set -/
def xput (σ : xS) (k j : Nat) (v : Int) : xS := fun a i => if a = k ∧ i = j then v else σ a i
def xlet {α β : Type} (v : α) (f : α → β) : β := f v
def xj {α ρ : Type} (K : α → Option ρ) (b : (α → Option ρ) → Option ρ) : Option ρ := b K
def xck {ρ : Type} (i : Int) (n : Nat) (o : Option ρ) : Option ρ := if 0 ≤ i ∧ i < (n : Int) then o else none
def xnz {ρ : Type} (y : Int) (o : Option ρ) : Option ρ := if y = 0 then none else o
def xbo {ρ : Type} (y : Int) (o : Option ρ) : Option ρ := if y = 0 ∨ y = 1 then o else none
def loopF {α ρ : Type} (b : (α → Option ρ) → α → Option ρ) : Nat → α → Option ρ
  | 0, _ => none
  | n + 1, t => b (loopF b n) t
def xrI (o : Option Int) (σ : xS) : Option (Option Value × xS) := o.map (fun v => (some (iV v), σ))
def xrL (o : Option Int) (σ : xS) : Option (Option Value × xS) := o.map (fun v => (some (jV v), σ))
def xrS (o : Option (Int × xS)) : Option (Option Value × xS) := o.map (fun q => (some (iV q.1), q.2))
def xrT (o : Option (Int × xS)) : Option (Option Value × xS) := o.map (fun q => (some (jV q.1), q.2))
def xbS {ρ : Type} (o : Option (Int × xS)) (f : Int → xS → Option ρ) : Option ρ := match o with
  | none => none
  | some q => f q.1 q.2
def xrV (o : Option xS) : Option (Option Value × xS) := o.map (fun q => (none, q))
/-- the links of nest mates -/
def NWl : List (String × Nat × MethodName × String) := [("BakeryNight$Bakery", 17, ⟨"BakeryNight$Dough", "<init>", "()V"⟩, "BakeryNight"), ("BakeryNight$Bakery", 24, ⟨"BakeryNight$Oven", "<init>", "()V"⟩, "BakeryNight"), ("BakeryNight$Bakery", 31, ⟨"BakeryNight$Order", "<init>", "()V"⟩, "BakeryNight"), ("BakeryNight$Bakery", 85, ⟨"BakeryNight", "dividedUp", "(II)I"⟩, "BakeryNight"), ("BakeryNight$Night", 181, ⟨"BakeryNight", "dividedUp", "(II)I"⟩, "BakeryNight")]
def xNw (U : State) : Prop := ∀ q ∈ NWl, va_Nw (.methodLinkNest q.1 q.2.1 q.2.2.1 q.2.2.2) U
theorem xNw_warm {s U : State} (hW : s.WarmedH U.vm) (h : xNw s) : xNw U := fun q hq => va_Nw.warmM hW (h q hq)
/-- what else holds around (constants of the launch): it stays while nothing below the base is written -/
def xAm (E : xE) : State → Heap → Prop := fun U H => KW E.2.1.2.2 (xA E) U H ∧ E.2.1.2.1 U H
def xAmC (E : xE) : Prop := ∀ (s U : State) (H H1 : Heap), s.WarmedH U.vm → (∀ a : Nat, a < H.size → ¬ xA E a → H1[a]? = H[a]?) → xAm E s H → xAm E U H1
/-- it stays if the part of one's own does -/
theorem xAmC_of {E : xE} (h : ∀ (s U : State) (H H1 : Heap), s.WarmedH U.vm → (∀ a : Nat, a < H.size → ¬ xA E a → H1[a]? = H[a]?) → E.2.1.2.1 s H → E.2.1.2.1 U H1) : xAmC E := fun s U H H1 hW hq g => ⟨KW_kept hW hq g.1, h s U H H1 hW hq g.2⟩
def xPost (E : xE) (w : xW) (σ : xS) (U : State) : Prop := va_P E.1 vwCl (xws E w σ) U.heap ∧ xSz E w U.heap.size ∧ xK E U
def xPre (E : xE) (w : xW) (σ : xS) (U : State) : Prop := xPost E w σ U ∧ xNw U ∧ xAm E U U.heap ∧ xAmC E
def xQ (E : xE) (w : xW) (r : Option Value × xS) : Array Value → State → Outcome → State → Prop := fun _ st oc t => oc = .returned r.1 ∧ xPost E w r.2 t ∧ va_F (xA E) st t
def xMet (l : Launch) (E : xE) (y : MethodName) (b : ByteArray) (nL : Nat) (ret : Option FieldType) (rm : Room) (as : List Value) (w w' : xW) (σ : xS) (res : Option (Option Value × xS)) : Prop :=
  ∀ r, res = some r → Met l y (.code y b nL ret :: GW) rm (va_Pc as (xPre E w σ)) (xQ E w' r) rm.cells rm.slots (xA E)
def xCx (X : xX) (cc : ByteArray) (own : String) (ret : Option FieldType) (rm : Room) (nL : Nat) : Prop :=
  (xXp X).tables.exec = Jvm.exec ∧ (xXc X).code = cc ∧ (xXc X).maxLocals = nL ∧ (xXs X).vm.findClass own = some (xXm X).cls ∧ (∀ w ∈ GW, w.before (xXa X) (xXs X) = true) ∧ xK (xXE X) (xXs X) ∧ (xXd X).locks = false ∧ (xXE X).2.2 ≤ (xXs X).heap.size ∧ (xXd X).sig.returnType = ret ∧ xXR X = rm ∧ xXn X = nL ∧ (xXk X ≤ rm.cells ∧ xXz X ≤ rm.slots) ∧ xNw (xXs X) ∧ xAm (xXE X) (xXs X) (xXs X).heap ∧ xAmC (xXE X)
def WO {ρ : Type} (X : xX) (Qf : ρ → State → Prop) (w : xW) (σ : xS) (pc : Nat) (L : List (Nat × Value)) (st : List Value) (o : Option ρ) : Prop :=
  ∀ r, o = some r → ∀ (H : Heap) (locs : List Loc), xRel (xXE X) w σ (xXs X).heap H locs → ∀ ls : Array Slot, lv_has ls (xXn X) L →
    W (xXp X) (xXl X) (xXe X) (xXR X) (xXs X) (xXm X) (xXa X) (xXb X) (xXd X) (xXc X) H locs (xXk X) (xXz X) (Qf r) (F0 (xXm X) pc ls st)
/-- a cell of the world: its kind, its length -/
def xAt (w : xW) (k c n : Nat) : Prop := xqi k < w.1 ∧ w.2.1 k = (c, n)
def xCls (ci : Nat) (C : String) (T : u_T) (N : Nat) (ty : Nat → FieldType) : Prop := vwCl[ci]? = some (C, T, N) ∧ (∀ w ∈ u_ws C T N, w ∈ GW) ∧ (∀ k, k < N → parseFieldDescriptor (T k).2.2.1 = some (ty k)) ∧ (∀ a, a < N → ∀ b, b < N → a ≠ b → (T a).2.1 ≠ (T b).2.1) ∧ xFT ci = ty
def rf (X : xX) (k : Nat) : Value := .ref (xqa (xXE X).2.2 k)
theorem xws_nth {E : xE} {w : xW} {σ : xS} {i : Nat} (h : i < w.1) : (xws E w σ)[i]? = some (E.2.2 + i, xC E w σ (xpi i)) := by
  simp [xws, h]
theorem xws_get {E : xE} {w : xW} {σ : xS} {k : Nat} (h : xqi k < w.1) : (xws E w σ)[xqi k]? = some (xqa E.2.2 k, xC E w σ k) := by
  rw [xws_nth h, xpq]
  rfl
theorem xA_of {E : xE} {w : xW} {k : Nat} (h : xqi k < w.1) (hw : w.1 ≤ 185) : xA E (xqa E.2.2 k) := ⟨Nat.le_add_right _ _, Nat.add_lt_add_left (Nat.lt_of_lt_of_le h hw) _⟩
theorem xws_D (E : xE) (w : xW) (σ : xS) (hw : w.1 ≤ 185) : va_D (xA E) (xws E w σ) := by
  have key : ∀ (i : Nat) (p : Nat × va_E), (xws E w σ)[i]? = some p → p.1 = E.2.2 + i := by
    intro i p h
    have hi : i < w.1 := by
      have := (List.getElem?_eq_some_iff.mp h).1
      simpa [xws] using this
    rw [xws_nth hi] at h
    exact (congrArg Prod.fst (Option.some.inj h)).symm
  refine ⟨fun i j p q hi hj e => ?_, fun k q hk => ?_⟩
  · rw [key i p hi, key j q hj] at e
    exact Nat.add_left_cancel e
  · have hk' : k < w.1 := by
      have := (List.getElem?_eq_some_iff.mp hk).1
      simpa [xws] using this
    show E.2.2 ≤ q.1 ∧ q.1 < E.2.2 + 185
    rw [key k q hk]
    exact ⟨Nat.le_add_right _ _, by omega⟩
theorem xws_set2 {E : xE} {w w' : xW} {σ σ' : xS} {k : Nat} {e : va_E} (hw : w'.1 = w.1) (he : e = xC E w' σ' k) (h : ∀ k', k' ≠ k → xC E w σ k' = xC E w' σ' k') : (xws E w σ).set (xqi k) (xqa E.2.2 k, e) = xws E w' σ' := by
  subst he
  apply List.ext_getElem?
  intro i
  by_cases hi : i < w.1
  · by_cases hk : i = xqi k
    · subst hk
      rw [List.getElem?_set_self (by simpa [xws] using hi), xws_get (by rw [hw]; exact hi)]
    · rw [List.getElem?_set_ne (Ne.symm hk), xws_nth hi, xws_nth (by rw [hw]; exact hi), h _ (fun q => hk (by rw [← q, xqp]))]
  · have h1 : (xws E w' σ').length ≤ i := by simpa [xws, hw] using hi
    have h2 : ((xws E w σ).set (xqi k) (xqa E.2.2 k, xC E w' σ' k)).length ≤ i := by simpa [xws] using hi
    rw [List.getElem?_eq_none h1, List.getElem?_eq_none h2]
theorem xws_set {E : xE} {w : xW} {σ σ' : xS} {k : Nat} {e : va_E} (he : e = xC E w σ' k) (h : ∀ k', k' ≠ k → xC E w σ k' = xC E w σ' k') : (xws E w σ).set (xqi k) (xqa E.2.2 k, e) = xws E w σ' := xws_set2 rfl he h
theorem xput_ne1 {σ : xS} {k j : Nat} {v : Int} {k' : Nat} (h : k' ≠ k) : (xput σ k j v) k' = σ k' := by
  funext i
  simp [xput, h]
theorem xput_row {σ : xS} {k j : Nat} {v : Int} : (fun i => Int32.ofInt (xput σ k j v k i)) = upd (fun i => Int32.ofInt (σ k i)) j (Int32.ofInt v) := by
  funext i
  by_cases h : i = j <;> simp [xput, upd, h]
theorem xputL_row {σ : xS} {k j : Nat} {v : Int} : (fun i => Int64.ofInt (xput σ k j v k i)) = vp_updL (fun i => Int64.ofInt (σ k i)) j (Int64.ofInt v) := by
  funext i
  by_cases h : i = j <;> simp [xput, vp_updL, h]
theorem xC_put {E : xE} {w : xW} {σ : xS} {k j : Nat} {v : Int} {k' : Nat} (h : k' ≠ k) : xC E w σ k' = xC E w (xput σ k j v) k' := by
  have h1 := xput_ne1 (σ := σ) (j := j) (v := v) h
  unfold xC
  simp only [h1]
  split <;> try rfl
  congr 2
  apply List.map_congr_left
  intro i _
  unfold xV
  rw [h1]
theorem xC_obj {E : xE} {w : xW} {σ : xS} {k ci n : Nat} (h : w.2.1 k = (20 + ci, n)) : xC E w σ k = .inr (ci, (List.range n).map (fun j => xV E.2.2 w σ (xFT ci j) k j)) := by
  unfold xC
  rw [h]
  have e : 20 + ci - 20 = ci := by omega
  simp only [show (20 + ci) = ci + 20 from Nat.add_comm _ _, Nat.add_sub_cancel]
theorem xC_0 {E : xE} {w : xW} {σ : xS} {k n : Nat} (h : w.2.1 k = (0, n)) : xC E w σ k = .inl (E.2.1.1 0, n, .inl (fun j => Int32.ofInt (σ k j))) := by unfold xC; rw [h]; rfl
theorem xC_1 {E : xE} {w : xW} {σ : xS} {k n : Nat} (h : w.2.1 k = (1, n)) : xC E w σ k = .inl (E.2.1.1 1, n, .inr (.inl (fun j => Int64.ofInt (σ k j)))) := by unfold xC; rw [h]; rfl
theorem xC_2 {E : xE} {w : xW} {σ : xS} {k n : Nat} (h : w.2.1 k = (2, n)) : xC E w σ k = .inl (E.2.1.1 2, n, .inl (fun j => Int32.ofInt (σ k j))) := by unfold xC; rw [h]; rfl
theorem xC_3 {E : xE} {w : xW} {σ : xS} {k n : Nat} (h : w.2.1 k = (3, n)) : xC E w σ k = .inl (E.2.1.1 3, n, .inl (fun j => Int32.ofInt (σ k j))) := by unfold xC; rw [h]; rfl
theorem xfs_set {n j : Nat} {f g : Nat → Value} {v : Value} (hj : g j = v) (h : ∀ i, i ≠ j → f i = g i) : ((List.range n).map f).set j v = (List.range n).map g := by
  apply List.ext_getElem?
  intro i
  by_cases hi : i < n
  · by_cases e : i = j
    · subst e
      rw [List.getElem?_set_self (by simpa using hi)]
      simp [hi, hj]
    · rw [List.getElem?_set_ne (Ne.symm e)]
      simp [hi, h i e]
  · rw [List.getElem?_eq_none (by simpa using hi), List.getElem?_eq_none (by simpa using hi)]
theorem xV_put {z : Nat} {w : xW} {σ : xS} {t : FieldType} {k j i : Nat} {v : Int} (h : i ≠ j) : xV z w σ t k i = xV z w (xput σ k j v) t k i := by
  have h1 : (xput σ k j v) k i = σ k i := by simp [xput, h]
  unfold xV
  rw [h1]
theorem xput_at {σ : xS} {k j : Nat} {v : Int} : (xput σ k j v) k j = v := by simp [xput]
theorem zI_tn (i : Int) : (Int32.ofInt i).toNatClampNeg = (zI i).toNat := rfl
theorem i_eq {x y : Int} : Int32.ofInt x = Int32.ofInt y ↔ zI x = zI y := ⟨fun h => by unfold zI; rw [h], fun h => Int32.toInt_inj.mp h⟩
theorem i_lt {x y : Int} : Int32.ofInt x < Int32.ofInt y ↔ zI x < zI y := Int32.lt_iff_toInt_lt
theorem i_le {x y : Int} : Int32.ofInt x ≤ Int32.ofInt y ↔ zI x ≤ zI y := Int32.le_iff_toInt_le
theorem i_z : (0 : Int32) = Int32.ofInt 0 := rfl
theorem zI_0 : zI 0 = 0 := by decide
theorem i_eq0 {x : Int} : Int32.ofInt x = 0 ↔ zI x = 0 := by rw [i_z, i_eq, zI_0]
theorem i_lt0 {x : Int} : Int32.ofInt x < 0 ↔ zI x < 0 := by rw [i_z, i_lt, zI_0]
theorem i_gt0 {x : Int} : 0 < Int32.ofInt x ↔ 0 < zI x := by rw [i_z, i_lt, zI_0]
theorem i_le0 {x : Int} : Int32.ofInt x ≤ 0 ↔ zI x ≤ 0 := by rw [i_z, i_le, zI_0]
theorem i_ge0 {x : Int} : 0 ≤ Int32.ofInt x ↔ 0 ≤ zI x := by rw [i_z, i_le, zI_0]
theorem xin {i : Int32} {n : Nat} (h : 0 ≤ i.toInt ∧ i.toInt < (n : Int)) : vp_in i n := vp_in_iff.mpr h
section XROWS
variable {ρ : Type} {X : xX} {Qf : ρ → State → Prop} {cc : ByteArray} {own : String} {ret : Option FieldType} {rm : Room} {nL : Nat} {w : xW} {σ : xS} {pc : Nat} {L : List (Nat × Value)} {st : List Value} {o : Option ρ}
theorem x_iadd (C : xCx X cc own ret rm nL) {x y : Int} (d : decode cc pc = .ok (.iadd, 1)) (k : WO X Qf w σ (pc + 1) L (iV (x + y) :: st) o) : WO X Qf w σ pc L (iV y :: iV x :: st) o := by
  intro r h H locs hR ls hl
  have := k r h H locs hR ls hl
  unfold iV at this ⊢
  rw [Int32.ofInt_add] at this
  exact lv_iadd C.1 C.2.1 d this
theorem x_isub (C : xCx X cc own ret rm nL) {x y : Int} (d : decode cc pc = .ok (.isub, 1)) (k : WO X Qf w σ (pc + 1) L (iV (x - y) :: st) o) : WO X Qf w σ pc L (iV y :: iV x :: st) o := by
  intro r h H locs hR ls hl
  have := k r h H locs hR ls hl
  unfold iV at this ⊢
  rw [Int32.ofInt_sub] at this
  exact lv_isub C.1 C.2.1 d this
theorem x_imul (C : xCx X cc own ret rm nL) {x y : Int} (d : decode cc pc = .ok (.imul, 1)) (k : WO X Qf w σ (pc + 1) L (iV (x * y) :: st) o) : WO X Qf w σ pc L (iV y :: iV x :: st) o := by
  intro r h H locs hR ls hl
  have := k r h H locs hR ls hl
  unfold iV at this ⊢
  rw [Int32.ofInt_mul] at this
  exact lv_imul C.1 C.2.1 d this
theorem x_iand (C : xCx X cc own ret rm nL) {x y : Int} (d : decode cc pc = .ok (.iand, 1)) (k : WO X Qf w σ (pc + 1) L (iV (zand x y) :: st) o) : WO X Qf w σ pc L (iV y :: iV x :: st) o := by
  intro r h H locs hR ls hl
  have := k r h H locs hR ls hl
  unfold iV at this ⊢
  rw [zand, Int32.ofInt_toInt] at this
  exact lv_iand C.1 C.2.1 d this
theorem x_ior (C : xCx X cc own ret rm nL) {x y : Int} (d : decode cc pc = .ok (.ior, 1)) (k : WO X Qf w σ (pc + 1) L (iV (zor x y) :: st) o) : WO X Qf w σ pc L (iV y :: iV x :: st) o := by
  intro r h H locs hR ls hl
  have := k r h H locs hR ls hl
  unfold iV at this ⊢
  rw [zor, Int32.ofInt_toInt] at this
  exact lv_ior C.1 C.2.1 d this
theorem x_ixor (C : xCx X cc own ret rm nL) {x y : Int} (d : decode cc pc = .ok (.ixor, 1)) (k : WO X Qf w σ (pc + 1) L (iV (zxor x y) :: st) o) : WO X Qf w σ pc L (iV y :: iV x :: st) o := by
  intro r h H locs hR ls hl
  have := k r h H locs hR ls hl
  unfold iV at this ⊢
  rw [zxor, Int32.ofInt_toInt] at this
  exact lv_ixor C.1 C.2.1 d this
theorem x_ishl (C : xCx X cc own ret rm nL) {x y : Int} (d : decode cc pc = .ok (.ishl, 1)) (k : WO X Qf w σ (pc + 1) L (iV (zshl x y) :: st) o) : WO X Qf w σ pc L (iV y :: iV x :: st) o := by
  intro r h H locs hR ls hl
  have := k r h H locs hR ls hl
  unfold iV at this ⊢
  rw [zshl, Int32.ofInt_toInt] at this
  exact lv_ishl C.1 C.2.1 d this
theorem x_ishr (C : xCx X cc own ret rm nL) {x y : Int} (d : decode cc pc = .ok (.ishr, 1)) (k : WO X Qf w σ (pc + 1) L (iV (zshr x y) :: st) o) : WO X Qf w σ pc L (iV y :: iV x :: st) o := by
  intro r h H locs hR ls hl
  have := k r h H locs hR ls hl
  unfold iV at this ⊢
  rw [zshr, Int32.ofInt_toInt] at this
  exact lv_ishr C.1 C.2.1 d this
theorem x_iushr (C : xCx X cc own ret rm nL) {x y : Int} (d : decode cc pc = .ok (.iushr, 1)) (k : WO X Qf w σ (pc + 1) L (iV (zushr x y) :: st) o) : WO X Qf w σ pc L (iV y :: iV x :: st) o := by
  intro r h H locs hR ls hl
  have := k r h H locs hR ls hl
  unfold iV at this ⊢
  rw [zushr, Int32.ofInt_toInt] at this
  exact lv_iushr C.1 C.2.1 d rfl this
theorem x_ladd (C : xCx X cc own ret rm nL) {x y : Int} (d : decode cc pc = .ok (.ladd, 1)) (k : WO X Qf w σ (pc + 1) L (jV (x + y) :: st) o) : WO X Qf w σ pc L (jV y :: jV x :: st) o := by
  intro r h H locs hR ls hl
  have := k r h H locs hR ls hl
  unfold jV at this ⊢
  rw [Int64.ofInt_add] at this
  exact lv_ladd C.1 C.2.1 d this
theorem x_lsub (C : xCx X cc own ret rm nL) {x y : Int} (d : decode cc pc = .ok (.lsub, 1)) (k : WO X Qf w σ (pc + 1) L (jV (x - y) :: st) o) : WO X Qf w σ pc L (jV y :: jV x :: st) o := by
  intro r h H locs hR ls hl
  have := k r h H locs hR ls hl
  unfold jV at this ⊢
  rw [Int64.ofInt_sub] at this
  exact lv_lsub C.1 C.2.1 d this
theorem x_lmul (C : xCx X cc own ret rm nL) {x y : Int} (d : decode cc pc = .ok (.lmul, 1)) (k : WO X Qf w σ (pc + 1) L (jV (x * y) :: st) o) : WO X Qf w σ pc L (jV y :: jV x :: st) o := by
  intro r h H locs hR ls hl
  have := k r h H locs hR ls hl
  unfold jV at this ⊢
  rw [Int64.ofInt_mul] at this
  exact lv_lmul C.1 C.2.1 d this
theorem x_lcmp (C : xCx X cc own ret rm nL) {x y : Int} (d : decode cc pc = .ok (.lcmp, 1)) (k : WO X Qf w σ (pc + 1) L (iV (zcmp x y) :: st) o) : WO X Qf w σ pc L (jV y :: jV x :: st) o := by
  intro r h H locs hR ls hl
  have := k r h H locs hR ls hl
  unfold iV at this
  rw [zcmp, Int32.ofInt_toInt] at this
  exact W.lcmp C.1 C.2.1 d this
theorem x_lshl (C : xCx X cc own ret rm nL) {x y : Int} (d : decode cc pc = .ok (.lshl, 1)) (k : WO X Qf w σ (pc + 1) L (jV (zlshl x y) :: st) o) : WO X Qf w σ pc L (iV y :: jV x :: st) o := by
  intro r h H locs hR ls hl
  have := k r h H locs hR ls hl
  unfold jV at this
  rw [zlshl, Int64.ofInt_toInt] at this
  exact lv_lshl C.1 C.2.1 d rfl this
theorem xnz_ne {y : Int} {r : ρ} (h : xnz (zI y) o = some r) : ¬ Int32.ofInt y = 0 ∧ o = some r := by
  unfold xnz at h
  split at h
  · cases h
  · next hne => exact ⟨fun e => hne (i_eq0.mp e), h⟩
theorem i_div {x y : Int} : Int32.ofInt ((zI x).tdiv (zI y)) = Int32.ofInt x / Int32.ofInt y := by
  rw [← Int32.toInt_inj, Int32.toInt_div, Int32.toInt_ofInt]
  rfl
theorem x_idiv (C : xCx X cc own ret rm nL) {x y : Int} (d : decode cc pc = .ok (.idiv, 1)) (k : WO X Qf w σ (pc + 1) L (iV ((zI x).tdiv (zI y)) :: st) o) : WO X Qf w σ pc L (iV y :: iV x :: st) (xnz (zI y) o) := by
  intro r h H locs hR ls hl
  obtain ⟨hne, h⟩ := xnz_ne h
  have := k r h H locs hR ls hl
  unfold iV at this
  rw [i_div] at this
  exact lv_idiv C.1 C.2.1 d hne this
theorem x_irem (C : xCx X cc own ret rm nL) {x y : Int} (d : decode cc pc = .ok (.irem, 1)) (k : WO X Qf w σ (pc + 1) L (iV (x - (zI x).tdiv (zI y) * y) :: st) o) : WO X Qf w σ pc L (iV y :: iV x :: st) (xnz (zI y) o) := by
  intro r h H locs hR ls hl
  obtain ⟨hne, h⟩ := xnz_ne h
  have := k r h H locs hR ls hl
  unfold iV at this
  rw [Int32.ofInt_sub, Int32.ofInt_mul, i_div] at this
  exact lv_irem C.1 C.2.1 d hne this
theorem x_ineg (C : xCx X cc own ret rm nL) {x : Int} (d : decode cc pc = .ok (.ineg, 1)) (k : WO X Qf w σ (pc + 1) L (iV (-x) :: st) o) : WO X Qf w σ pc L (iV x :: st) o := by
  intro r h H locs hR ls hl
  have := k r h H locs hR ls hl
  unfold iV at this
  rw [Int32.ofInt_neg] at this
  exact lv_ineg C.1 C.2.1 d this
theorem x_i2l (C : xCx X cc own ret rm nL) {x : Int} (d : decode cc pc = .ok (.i2l, 1)) (k : WO X Qf w σ (pc + 1) L (jV (zI x) :: st) o) : WO X Qf w σ pc L (iV x :: st) o := by
  intro r h H locs hR ls hl
  exact lv_i2l C.1 C.2.1 d (Int64.toInt_inj.mp (by rw [Int32.toInt_toInt64, Int64.toInt_ofInt_of_le (Int.le_trans (by decide) (zI_lo x)) (Int.lt_of_lt_of_le (zI_hi x) (by decide))]; rfl)) (k r h H locs hR ls hl)
theorem x_l2i (C : xCx X cc own ret rm nL) {x : Int} (d : decode cc pc = .ok (.l2i, 1)) (k : WO X Qf w σ (pc + 1) L (iV x :: st) o) : WO X Qf w σ pc L (jV x :: st) o := by
  intro r h H locs hR ls hl
  exact lv_l2i C.1 C.2.1 d (Int64.toInt32_ofInt) (k r h H locs hR ls hl)
theorem x_i2b (C : xCx X cc own ret rm nL) {x : Int} (d : decode cc pc = .ok (.i2b, 1)) (k : WO X Qf w σ (pc + 1) L (iV (zi2b x) :: st) o) : WO X Qf w σ pc L (iV x :: st) o := by
  intro r h H locs hR ls hl
  have := k r h H locs hR ls hl
  unfold iV at this
  rw [zi2b, Int32.ofInt_toInt] at this
  exact lv_i2b C.1 C.2.1 d rfl this
theorem x_i2c (C : xCx X cc own ret rm nL) {x : Int} (d : decode cc pc = .ok (.i2c, 1)) (k : WO X Qf w σ (pc + 1) L (iV (zi2c x) :: st) o) : WO X Qf w σ pc L (iV x :: st) o := by
  intro r h H locs hR ls hl
  have := k r h H locs hR ls hl
  unfold iV at this
  rw [zi2c, Int32.ofInt_toInt] at this
  exact lv_i2c C.1 C.2.1 d rfl this
theorem x_iconst (C : xCx X cc own ret rm nL) {n : Int} (v : Int) (d : decode cc pc = .ok (.iconst n, 1)) (hv : Int32.ofInt n = Int32.ofInt v) (k : WO X Qf w σ (pc + 1) L (iV v :: st) o) : WO X Qf w σ pc L st o :=
  fun r h H locs hR ls hl => lv_iconst C.1 C.2.1 d hv (k r h H locs hR ls hl)
theorem x_bipush (C : xCx X cc own ret rm nL) {n : Int} (v : Int) (d : decode cc pc = .ok (.bipush n, 2)) (hv : (Int8.ofInt n).toInt32 = Int32.ofInt v) (k : WO X Qf w σ (pc + 2) L (iV v :: st) o) : WO X Qf w σ pc L st o :=
  fun r h H locs hR ls hl => lv_bipush C.1 C.2.1 d hv (k r h H locs hR ls hl)
theorem x_sipush (C : xCx X cc own ret rm nL) {n : Int} (v : Int) (d : decode cc pc = .ok (.sipush n, 3)) (hv : (Int16.ofInt n).toInt32 = Int32.ofInt v) (k : WO X Qf w σ (pc + 3) L (iV v :: st) o) : WO X Qf w σ pc L st o :=
  fun r h H locs hR ls hl => lv_sipush C.1 C.2.1 d hv (k r h H locs hR ls hl)
theorem x_lconst (C : xCx X cc own ret rm nL) {n : Fin 2} (v : Int) (d : decode cc pc = .ok (.lconst n, 1)) (hv : Int64.ofNat (n : Nat) = Int64.ofInt v) (k : WO X Qf w σ (pc + 1) L (jV v :: st) o) : WO X Qf w σ pc L st o :=
  fun r h H locs hR ls hl => lv_lconst C.1 C.2.1 d hv (k r h H locs hR ls hl)
theorem x_ldc (C : xCx X cc own ret rm nL) {index : Nat} {v : Int32} (z : Int) (hc : Cond.constant own index v ∈ GW) (hz : Int32.ofInt z = v) (d : decode cc pc = .ok (.ldc index, 2)) (k : WO X Qf w σ (pc + 2) L (iV z :: st) o) : WO X Qf w σ pc L st o := by
  subst hz
  exact fun r h H locs hR ls hl => lv_ldc C.1 C.2.1 C.2.2.2.1 (C.2.2.2.2.1 _ hc) d (k r h H locs hR ls hl)
theorem x_ldcw (C : xCx X cc own ret rm nL) {index : Nat} {v : Int32} (z : Int) (hc : Cond.constant own index v ∈ GW) (hz : Int32.ofInt z = v) (d : decode cc pc = .ok (.ldc_w index, 3)) (k : WO X Qf w σ (pc + 3) L (iV z :: st) o) : WO X Qf w σ pc L st o := by
  subst hz
  exact fun r h H locs hR ls hl => lv_ldcw C.1 C.2.1 C.2.2.2.1 (C.2.2.2.2.1 _ hc) d (k r h H locs hR ls hl)
theorem x_ldc2 (C : xCx X cc own ret rm nL) {index : Nat} {v : Int64} (z : Int) (hc : Cond.constantLong own index v ∈ GW) (hz : Int64.ofInt z = v) (d : decode cc pc = .ok (.ldc2_w index, 3)) (k : WO X Qf w σ (pc + 3) L (jV z :: st) o) : WO X Qf w σ pc L st o := by
  subst hz
  exact fun r h H locs hR ls hl => lv_ldc2 C.1 C.2.1 C.2.2.2.1 (C.2.2.2.2.1 _ hc) d (k r h H locs hR ls hl)
theorem x_pop (C : xCx X cc own ret rm nL) {v : Value} (d : decode cc pc = .ok (.pop, 1)) (hv : v.category = 1) (k : WO X Qf w σ (pc + 1) L st o) : WO X Qf w σ pc L (v :: st) o :=
  fun r h H locs hR ls hl => lv_pop C.1 C.2.1 d hv (k r h H locs hR ls hl)
theorem x_dup (C : xCx X cc own ret rm nL) {v : Value} (d : decode cc pc = .ok (.dup, 1)) (hv : v.category = 1) (k : WO X Qf w σ (pc + 1) L (v :: v :: st) o) : WO X Qf w σ pc L (v :: st) o :=
  fun r h H locs hR ls hl => lv_dup C.1 C.2.1 d hv (k r h H locs hR ls hl)
theorem x_dup2 (C : xCx X cc own ret rm nL) {v u : Value} (d : decode cc pc = .ok (.dup2, 1)) (hv : v.category = 1) (hu : u.category = 1) (k : WO X Qf w σ (pc + 1) L (v :: u :: v :: u :: st) o) : WO X Qf w σ pc L (v :: u :: st) o :=
  fun r h H locs hR ls hl => lv_dup2_11 C.1 C.2.1 d hv hu (k r h H locs hR ls hl)
theorem x_goto (C : xCx X cc own ret rm nL) {off : Int} (tgt : Nat) (d : decode cc pc = .ok (.goto off, 3)) (ht : (pc : Int) + off = (tgt : Int)) (k : WO X Qf w σ tgt L st o) : WO X Qf w σ pc L st o :=
  fun r h H locs hR ls hl => lv_goto C.1 C.2.1 d ht (k r h H locs hR ls hl)
theorem x_pick {L' : List (Nat × Value)} (ks : List Nat) (e : lv_pick L ks = L') (k : WO X Qf w σ pc L' st o) : WO X Qf w σ pc L st o :=
  fun r h H locs hR ls hl => k r h H locs hR ls (lv_sub hl ks e)
theorem x_iload_n (C : xCx X cc own ret rm nL) {n : Fin 4} {i : Nat} {x : Int} (q : Nat) (d : decode cc pc = .ok (.iload_n n, 1)) (hi : (n : Nat) = i) (hq : L[q]? = some (i, iV x)) (k : WO X Qf w σ (pc + 1) L (iV x :: st) o) : WO X Qf w σ pc L st o :=
  fun r h H locs hR ls hl => lv_iload_n C.1 C.2.1 d hi (lv_at hl q hq) (k r h H locs hR ls hl)
theorem x_iload (C : xCx X cc own ret rm nL) {i : Nat} {x : Int} (q : Nat) (d : decode cc pc = .ok (.iload i, 2)) (hq : L[q]? = some (i, iV x)) (k : WO X Qf w σ (pc + 2) L (iV x :: st) o) : WO X Qf w σ pc L st o :=
  fun r h H locs hR ls hl => lv_iload C.1 C.2.1 d (lv_at hl q hq) (k r h H locs hR ls hl)
theorem x_lload_n (C : xCx X cc own ret rm nL) {n : Fin 4} {i : Nat} {x : Int} (q : Nat) (d : decode cc pc = .ok (.lload_n n, 1)) (hi : (n : Nat) = i) (hq : L[q]? = some (i, jV x)) (k : WO X Qf w σ (pc + 1) L (jV x :: st) o) : WO X Qf w σ pc L st o :=
  fun r h H locs hR ls hl => lv_lload_n C.1 C.2.1 d hi (lv_at hl q hq) (k r h H locs hR ls hl)
theorem x_lload (C : xCx X cc own ret rm nL) {i : Nat} {x : Int} (q : Nat) (d : decode cc pc = .ok (.lload i, 2)) (hq : L[q]? = some (i, jV x)) (k : WO X Qf w σ (pc + 2) L (jV x :: st) o) : WO X Qf w σ pc L st o :=
  fun r h H locs hR ls hl => lv_lload C.1 C.2.1 d (lv_at hl q hq) (k r h H locs hR ls hl)
theorem x_aload_n (C : xCx X cc own ret rm nL) {n : Fin 4} {i : Nat} {x : Nat} (q : Nat) (d : decode cc pc = .ok (.aload_n n, 1)) (hi : (n : Nat) = i) (hq : L[q]? = some (i, .ref x)) (k : WO X Qf w σ (pc + 1) L (.ref x :: st) o) : WO X Qf w σ pc L st o :=
  fun r h H locs hR ls hl => lv_aload_n C.1 C.2.1 d hi (lv_at hl q hq) (k r h H locs hR ls hl)
theorem x_aload (C : xCx X cc own ret rm nL) {i : Nat} {x : Nat} (q : Nat) (d : decode cc pc = .ok (.aload i, 2)) (hq : L[q]? = some (i, .ref x)) (k : WO X Qf w σ (pc + 2) L (.ref x :: st) o) : WO X Qf w σ pc L st o :=
  fun r h H locs hR ls hl => lv_aload C.1 C.2.1 d (lv_at hl q hq) (k r h H locs hR ls hl)
theorem x_istore_n (C : xCx X cc own ret rm nL) {n : Fin 4} {i : Nat} {x : Int} {L' : List (Nat × Value)} (d : decode cc pc = .ok (.istore_n n, 1)) (hi : (n : Nat) = i) (hn : i < nL) (hl' : (i, iV x) :: L.filter (fun q : Nat × Value => !(q.1 == i) && !(q.1 + 1 == i && q.2.category == 2)) = L') (k : WO X Qf w σ (pc + 1) L' st o) : WO X Qf w σ pc L (iV x :: st) o :=
  fun r h H locs hR ls hl => lv_istore_n C.1 C.2.1 d hi hl (by rw [C.2.2.2.2.2.2.2.2.2.2.1]; exact hn) hl' (fun ls' hls' => k r h H locs hR ls' hls')
theorem x_istore (C : xCx X cc own ret rm nL) {i : Nat} {x : Int} {L' : List (Nat × Value)} (d : decode cc pc = .ok (.istore i, 2)) (hn : i < nL) (hl' : (i, iV x) :: L.filter (fun q : Nat × Value => !(q.1 == i) && !(q.1 + 1 == i && q.2.category == 2)) = L') (k : WO X Qf w σ (pc + 2) L' st o) : WO X Qf w σ pc L (iV x :: st) o :=
  fun r h H locs hR ls hl => lv_istore C.1 C.2.1 d hl (by rw [C.2.2.2.2.2.2.2.2.2.2.1]; exact hn) hl' (fun ls' hls' => k r h H locs hR ls' hls')
theorem x_astore_n (C : xCx X cc own ret rm nL) {n : Fin 4} {i : Nat} {x : Nat} {L' : List (Nat × Value)} (d : decode cc pc = .ok (.astore_n n, 1)) (hi : (n : Nat) = i) (hn : i < nL) (hl' : (i, Value.ref x) :: L.filter (fun q : Nat × Value => !(q.1 == i) && !(q.1 + 1 == i && q.2.category == 2)) = L') (k : WO X Qf w σ (pc + 1) L' st o) : WO X Qf w σ pc L (Value.ref x :: st) o :=
  fun r h H locs hR ls hl => lv_astore_n C.1 C.2.1 d hi hl (by rw [C.2.2.2.2.2.2.2.2.2.2.1]; exact hn) hl' (fun ls' hls' => k r h H locs hR ls' hls')
theorem x_astore (C : xCx X cc own ret rm nL) {i : Nat} {x : Nat} {L' : List (Nat × Value)} (d : decode cc pc = .ok (.astore i, 2)) (hn : i < nL) (hl' : (i, Value.ref x) :: L.filter (fun q : Nat × Value => !(q.1 == i) && !(q.1 + 1 == i && q.2.category == 2)) = L') (k : WO X Qf w σ (pc + 2) L' st o) : WO X Qf w σ pc L (Value.ref x :: st) o :=
  fun r h H locs hR ls hl => lv_astore C.1 C.2.1 d hl (by rw [C.2.2.2.2.2.2.2.2.2.2.1]; exact hn) hl' (fun ls' hls' => k r h H locs hR ls' hls')
theorem x_lstore_n (C : xCx X cc own ret rm nL) {n : Fin 4} {i : Nat} {x : Int} {L' : List (Nat × Value)} (d : decode cc pc = .ok (.lstore_n n, 1)) (hi : (n : Nat) = i) (hn : i + 1 < nL) (hl' : (i, jV x) :: L.filter (fun q : Nat × Value => !(q.1 == i) && (!(q.1 == i + 1) && !(q.1 + 1 == i && q.2.category == 2))) = L') (k : WO X Qf w σ (pc + 1) L' st o) : WO X Qf w σ pc L (jV x :: st) o :=
  fun r h H locs hR ls hl => lv_lstore_n C.1 C.2.1 d hi hl (by rw [C.2.2.2.2.2.2.2.2.2.2.1]; exact hn) hl' (fun ls' hls' => k r h H locs hR ls' hls')
theorem x_lstore (C : xCx X cc own ret rm nL) {i : Nat} {x : Int} {L' : List (Nat × Value)} (d : decode cc pc = .ok (.lstore i, 2)) (hn : i + 1 < nL) (hl' : (i, jV x) :: L.filter (fun q : Nat × Value => !(q.1 == i) && (!(q.1 == i + 1) && !(q.1 + 1 == i && q.2.category == 2))) = L') (k : WO X Qf w σ (pc + 2) L' st o) : WO X Qf w σ pc L (jV x :: st) o :=
  fun r h H locs hR ls hl => lv_lstore C.1 C.2.1 d hl (by rw [C.2.2.2.2.2.2.2.2.2.2.1]; exact hn) hl' (fun ls' hls' => k r h H locs hR ls' hls')
theorem x_iinc (C : xCx X cc own ret rm nL) {i : Nat} {n : Int} {x : Int} {L' : List (Nat × Value)} (q : Nat) (v : Int) (d : decode cc pc = .ok (.iinc i n, 3)) (hq : L[q]? = some (i, iV x)) (hv : v = x + n) (hn : i < nL) (hl' : (i, iV v) :: L.filter (fun q : Nat × Value => !(q.1 == i) && !(q.1 + 1 == i && q.2.category == 2)) = L') (k : WO X Qf w σ (pc + 3) L' st o) : WO X Qf w σ pc L st o :=
  fun r h H locs hR ls hl => lv_iinc C.1 C.2.1 d hl hq (by rw [hv, Int32.ofInt_add]) (by rw [C.2.2.2.2.2.2.2.2.2.2.1]; exact hn) hl' (fun ls' hls' => k r h H locs hR ls' hls')
theorem x_icmp_eq (C : xCx X cc own ret rm nL) {x y x' y' : Int} {off : Int} (tgt : Nat) (hx : zI x = x') (hy : zI y = y') (d : decode cc pc = .ok (.if_icmp .eq off, 3)) (ht : (pc : Int) + off = (tgt : Int)) (kt : x' = y' → WO X Qf w σ tgt L st o) (kf : ¬ x' = y' → WO X Qf w σ (pc + 3) L st o) : WO X Qf w σ pc L (iV y :: iV x :: st) o := by
  subst hx
  subst hy
  exact fun r h H locs hR ls hl => lv_icmp_eq C.1 C.2.1 d ht (fun hc => kt ((i_eq).mp hc) r h H locs hR ls hl) (fun hc => kf (fun e => hc ((i_eq).mpr e)) r h H locs hR ls hl)
theorem x_if_eq (C : xCx X cc own ret rm nL) {x x' : Int} {off : Int} (tgt : Nat) (hx : zI x = x') (d : decode cc pc = .ok (.ifCond .eq off, 3)) (ht : (pc : Int) + off = (tgt : Int)) (kt : x' = 0 → WO X Qf w σ tgt L st o) (kf : ¬ x' = 0 → WO X Qf w σ (pc + 3) L st o) : WO X Qf w σ pc L (iV x :: st) o := by
  subst hx
  exact fun r h H locs hR ls hl => lv_if_eq C.1 C.2.1 d ht (fun hc => kt ((i_eq0).mp hc) r h H locs hR ls hl) (fun hc => kf (fun e => hc ((i_eq0).mpr e)) r h H locs hR ls hl)
theorem x_icmp_ne (C : xCx X cc own ret rm nL) {x y x' y' : Int} {off : Int} (tgt : Nat) (hx : zI x = x') (hy : zI y = y') (d : decode cc pc = .ok (.if_icmp .ne off, 3)) (ht : (pc : Int) + off = (tgt : Int)) (kt : ¬ x' = y' → WO X Qf w σ tgt L st o) (kf : x' = y' → WO X Qf w σ (pc + 3) L st o) : WO X Qf w σ pc L (iV y :: iV x :: st) o := by
  subst hx
  subst hy
  exact fun r h H locs hR ls hl => lv_icmp_ne C.1 C.2.1 d ht (fun hc => kt (fun e => hc ((i_eq).mpr e)) r h H locs hR ls hl) (fun hc => kf ((i_eq).mp hc) r h H locs hR ls hl)
theorem x_if_ne (C : xCx X cc own ret rm nL) {x x' : Int} {off : Int} (tgt : Nat) (hx : zI x = x') (d : decode cc pc = .ok (.ifCond .ne off, 3)) (ht : (pc : Int) + off = (tgt : Int)) (kt : ¬ x' = 0 → WO X Qf w σ tgt L st o) (kf : x' = 0 → WO X Qf w σ (pc + 3) L st o) : WO X Qf w σ pc L (iV x :: st) o := by
  subst hx
  exact fun r h H locs hR ls hl => lv_if_ne C.1 C.2.1 d ht (fun hc => kt (fun e => hc ((i_eq0).mpr e)) r h H locs hR ls hl) (fun hc => kf ((i_eq0).mp hc) r h H locs hR ls hl)
theorem x_icmp_lt (C : xCx X cc own ret rm nL) {x y x' y' : Int} {off : Int} (tgt : Nat) (hx : zI x = x') (hy : zI y = y') (d : decode cc pc = .ok (.if_icmp .lt off, 3)) (ht : (pc : Int) + off = (tgt : Int)) (kt : x' < y' → WO X Qf w σ tgt L st o) (kf : ¬ x' < y' → WO X Qf w σ (pc + 3) L st o) : WO X Qf w σ pc L (iV y :: iV x :: st) o := by
  subst hx
  subst hy
  exact fun r h H locs hR ls hl => lv_icmp_lt C.1 C.2.1 d ht (fun hc => kt ((i_lt).mp hc) r h H locs hR ls hl) (fun hc => kf (fun e => hc ((i_lt).mpr e)) r h H locs hR ls hl)
theorem x_if_lt (C : xCx X cc own ret rm nL) {x x' : Int} {off : Int} (tgt : Nat) (hx : zI x = x') (d : decode cc pc = .ok (.ifCond .lt off, 3)) (ht : (pc : Int) + off = (tgt : Int)) (kt : x' < 0 → WO X Qf w σ tgt L st o) (kf : ¬ x' < 0 → WO X Qf w σ (pc + 3) L st o) : WO X Qf w σ pc L (iV x :: st) o := by
  subst hx
  exact fun r h H locs hR ls hl => lv_if_lt C.1 C.2.1 d ht (fun hc => kt ((i_lt0).mp hc) r h H locs hR ls hl) (fun hc => kf (fun e => hc ((i_lt0).mpr e)) r h H locs hR ls hl)
theorem x_icmp_ge (C : xCx X cc own ret rm nL) {x y x' y' : Int} {off : Int} (tgt : Nat) (hx : zI x = x') (hy : zI y = y') (d : decode cc pc = .ok (.if_icmp .ge off, 3)) (ht : (pc : Int) + off = (tgt : Int)) (kt : y' ≤ x' → WO X Qf w σ tgt L st o) (kf : ¬ y' ≤ x' → WO X Qf w σ (pc + 3) L st o) : WO X Qf w σ pc L (iV y :: iV x :: st) o := by
  subst hx
  subst hy
  exact fun r h H locs hR ls hl => lv_icmp_ge C.1 C.2.1 d ht (fun hc => kt ((i_le).mp hc) r h H locs hR ls hl) (fun hc => kf (fun e => hc ((i_le).mpr e)) r h H locs hR ls hl)
theorem x_if_ge (C : xCx X cc own ret rm nL) {x x' : Int} {off : Int} (tgt : Nat) (hx : zI x = x') (d : decode cc pc = .ok (.ifCond .ge off, 3)) (ht : (pc : Int) + off = (tgt : Int)) (kt : 0 ≤ x' → WO X Qf w σ tgt L st o) (kf : ¬ 0 ≤ x' → WO X Qf w σ (pc + 3) L st o) : WO X Qf w σ pc L (iV x :: st) o := by
  subst hx
  exact fun r h H locs hR ls hl => lv_if_ge C.1 C.2.1 d ht (fun hc => kt ((i_ge0).mp hc) r h H locs hR ls hl) (fun hc => kf (fun e => hc ((i_ge0).mpr e)) r h H locs hR ls hl)
theorem x_icmp_gt (C : xCx X cc own ret rm nL) {x y x' y' : Int} {off : Int} (tgt : Nat) (hx : zI x = x') (hy : zI y = y') (d : decode cc pc = .ok (.if_icmp .gt off, 3)) (ht : (pc : Int) + off = (tgt : Int)) (kt : y' < x' → WO X Qf w σ tgt L st o) (kf : ¬ y' < x' → WO X Qf w σ (pc + 3) L st o) : WO X Qf w σ pc L (iV y :: iV x :: st) o := by
  subst hx
  subst hy
  exact fun r h H locs hR ls hl => lv_icmp_gt C.1 C.2.1 d ht (fun hc => kt ((i_lt).mp hc) r h H locs hR ls hl) (fun hc => kf (fun e => hc ((i_lt).mpr e)) r h H locs hR ls hl)
theorem x_if_gt (C : xCx X cc own ret rm nL) {x x' : Int} {off : Int} (tgt : Nat) (hx : zI x = x') (d : decode cc pc = .ok (.ifCond .gt off, 3)) (ht : (pc : Int) + off = (tgt : Int)) (kt : 0 < x' → WO X Qf w σ tgt L st o) (kf : ¬ 0 < x' → WO X Qf w σ (pc + 3) L st o) : WO X Qf w σ pc L (iV x :: st) o := by
  subst hx
  exact fun r h H locs hR ls hl => lv_if_gt C.1 C.2.1 d ht (fun hc => kt ((i_gt0).mp hc) r h H locs hR ls hl) (fun hc => kf (fun e => hc ((i_gt0).mpr e)) r h H locs hR ls hl)
theorem x_icmp_le (C : xCx X cc own ret rm nL) {x y x' y' : Int} {off : Int} (tgt : Nat) (hx : zI x = x') (hy : zI y = y') (d : decode cc pc = .ok (.if_icmp .le off, 3)) (ht : (pc : Int) + off = (tgt : Int)) (kt : x' ≤ y' → WO X Qf w σ tgt L st o) (kf : ¬ x' ≤ y' → WO X Qf w σ (pc + 3) L st o) : WO X Qf w σ pc L (iV y :: iV x :: st) o := by
  subst hx
  subst hy
  exact fun r h H locs hR ls hl => lv_icmp_le C.1 C.2.1 d ht (fun hc => kt ((i_le).mp hc) r h H locs hR ls hl) (fun hc => kf (fun e => hc ((i_le).mpr e)) r h H locs hR ls hl)
theorem x_if_le (C : xCx X cc own ret rm nL) {x x' : Int} {off : Int} (tgt : Nat) (hx : zI x = x') (d : decode cc pc = .ok (.ifCond .le off, 3)) (ht : (pc : Int) + off = (tgt : Int)) (kt : x' ≤ 0 → WO X Qf w σ tgt L st o) (kf : ¬ x' ≤ 0 → WO X Qf w σ (pc + 3) L st o) : WO X Qf w σ pc L (iV x :: st) o := by
  subst hx
  exact fun r h H locs hR ls hl => lv_if_le C.1 C.2.1 d ht (fun hc => kt ((i_le0).mp hc) r h H locs hR ls hl) (fun hc => kf (fun e => hc ((i_le0).mpr e)) r h H locs hR ls hl)
theorem x_op {c : Prop} [Decidable c] {o1 o2 : Option ρ} (hc : c) (k : WO X Qf w σ pc L st o1) : WO X Qf w σ pc L st (if c then o1 else o2) := by rw [if_pos hc]; exact k
theorem x_on {c : Prop} [Decidable c] {o1 o2 : Option ρ} (hc : ¬ c) (k : WO X Qf w σ pc L st o2) : WO X Qf w σ pc L st (if c then o1 else o2) := by rw [if_neg hc]; exact k
theorem x_let {α : Type} {v : α} {f : α → Option ρ} {S : α → xS} {L1 : α → List (Nat × Value)} {st1 : α → List Value} (k : ∀ y, WO X Qf w (S y) pc (L1 y) (st1 y) (f y)) : WO X Qf w (S v) pc (L1 v) (st1 v) (xlet v f) := k v
theorem x_letI {v : Int} {f : Int → Option ρ} (k : ∀ y, WO X Qf w σ pc L (iV y :: st) (f y)) : WO X Qf w σ pc L (iV v :: st) (xlet v f) := k v
theorem x_letL {v : Int} {f : Int → Option ρ} (k : ∀ y, WO X Qf w σ pc L (jV y :: st) (f y)) : WO X Qf w σ pc L (jV v :: st) (xlet v f) := k v
theorem x_letS {f : xS → Option ρ} (k : ∀ τ, WO X Qf w τ pc L st (f τ)) : WO X Qf w σ pc L st (xlet σ f) := k σ
theorem x_join {α : Type} {K : α → Option ρ} {b : (α → Option ρ) → Option ρ} (P : (α → Option ρ) → Prop) (hK : P K) (hb : ∀ J, P J → WO X Qf w σ pc L st (b J)) : WO X Qf w σ pc L st (xj K b) := hb K hK
theorem x_loop {α : Type} {b : (α → Option ρ) → α → Option ρ} (S : α → xS) (M : α → List (Nat × Value)) (hs : ∀ rec : α → Option ρ, (∀ t, WO X Qf w (S t) pc (M t) [] (rec t)) → ∀ t, WO X Qf w (S t) pc (M t) [] (b rec t)) (n : Nat) : ∀ t, WO X Qf w (S t) pc (M t) [] (loopF b n t) := by
  induction n with
  | zero => intro t r h; cases h
  | succ n ih => exact hs _ ih
theorem x_none : WO X Qf w σ pc L st none := fun r h => by cases h
theorem x_ck {i : Int} {n : Nat} (k : 0 ≤ i ∧ i < (n : Int) → WO X Qf w σ pc L st o) : WO X Qf w σ pc L st (xck i n o) := by
  unfold xck
  split
  · next h => exact k h
  · exact x_none
theorem x_bo {y : Int} (k : y = 0 ∨ y = 1 → WO X Qf w σ pc L st o) : WO X Qf w σ pc L st (xbo y o) := by
  unfold xbo
  split
  · next h => exact k h
  · exact x_none

theorem x_get (C : xCx X cc own ret rm nL) {ci N index k : Nat} (j : Nat) {Cn ref : String} {T : u_T} {ty : Nat → FieldType} {v : Value} (K : xCls ci Cn T N ty) (A : xAt w k (20 + ci) N) (hj : j < N) (hlink : Cond.fieldLink own index ref (T j).2.1 (T j).2.2.1 ∈ GW) (href : (T j).1 = ref) (hv : xV (xXE X).2.2 w σ (ty j) k j = v) (d : decode cc pc = .ok (.getfield index, 3)) (kk : WO X Qf w σ (pc + 3) L (v :: st) o) : WO X Qf w σ pc L (.ref (xqa (xXE X).2.2 k) :: st) o := by
  intro r h H locs hR ls hl
  refine va_get (D := (xXE X).1) (cl := vwCl) (tys := xtys (xXE X).2.1.1) (ws := xws (xXE X) w σ) C.1 C.2.1 C.2.2.2.2.1 K.2.1 C.2.2.2.1 C.2.2.2.2.2.1 hR.1 (xqi k) (ci := ci) ((xws_get A.1).trans (by rw [xC_obj A.2])) K.1 j hj (C.2.2.2.2.1 _ hlink) (fun _ h9 => by rw [← href]; exact h9) (v := v) ?_ d (kk r h H locs hR ls hl)
  simp [hj, ← hv, K.2.2.2.2]
theorem xRel_put {E : xE} {σ σ' : xS} {H H1 H0 : Heap} {locs : List Loc} {k i : Nat} {e : va_E} (hR : xRel E w σ H0 H locs) (hk : xqi k < w.1) (he : va_at E.1 vwCl (xqa E.2.2 k, e) H1) (hx : e = xC E w σ' k) (ho : ∀ k', k' ≠ k → xC E w σ k' = xC E w σ' k') (z : H1.size = H.size) (oq : ∀ q : Nat, q ≠ xqa E.2.2 k → H1[q]? = H[q]?) : xRel E w σ' H0 H1 (locs ++ [⟨xqa E.2.2 k, i⟩]) := by
  refine ⟨?_, by rw [z]; exact hR.2.1, hR.2.2.put z oq (xA_of hk hR.2.1.1.2)⟩
  rw [← xws_set hx ho]
  exact hR.1.set (xws_D _ _ _ hR.2.1.1.2) (xws_get hk) he oq
theorem x_put (C : xCx X cc own ret rm nL) {ci N index k : Nat} (j : Nat) {Cn ref : String} {T : u_T} {ty : Nat → FieldType} {v : Value} (x : Int) (K : xCls ci Cn T N ty) (A : xAt w k (20 + ci) N) (hj : j < N) (hlink : Cond.fieldLink own index ref (T j).2.1 (T j).2.2.1 ∈ GW) (href : (T j).1 = ref) (hfin : (T j).2.2.2 = false) (hn : narrow (ty j) v = v) (hfit : fits (ty j) v = true) (hv : xV (xXE X).2.2 w (xput σ k j x) (ty j) k j = v) (d : decode cc pc = .ok (.putfield index, 3)) (kk : WO X Qf w (xput σ k j x) (pc + 3) L st o) : WO X Qf w σ pc L (v :: .ref (xqa (xXE X).2.2 k) :: st) o := by
  intro r h H locs hR ls hl
  subst href
  have hap := va_apart (own := own) (cl := vwCl) C.2.2.2.2.1 K.2.1 ty K.2.2.1 K.2.2.2.1 C.2.2.2.2.2.1 K.1
  obtain ⟨r0, h1, cell, q1, q2, q3, q4⟩ := hR.1 (xqi k) _ ((xws_get A.1).trans (by rw [xC_obj A.2]))
  have hr : r0 = (Cn, T, N) := Option.some.inj (h1.symm.trans K.1)
  subst hr
  obtain ⟨hS, hfc, kC, hkC, hkind⟩ := C.2.2.2.2.2.1.1 ci _ K.1
  obtain ⟨cf, kf, fi, f, hi, hsl⟩ := hS j hj
  have hlay := C.2.2.2.2.1 _ (K.2.1 _ (u_in_lay hj))
  unfold u_lay at hlay
  rw [if_neg (by rw [hfin]; decide)] at hlay
  have hst := (u_facts hfc hkC (u_lays C.2.2.2.2.1 K.2.1 hj) hi).1
  have h6 := u_store hfc hkC hkind hlay hi (K.2.2.1 j hj) hn hfit
  refine W.putK C.1 C.2.1 (f := f) ⟨C.2.2.2.1, C.2.2.2.2.1 _ hlink, ⟨_, _, _, hi⟩, hst⟩ (by rw [q2]; exact h6) q1 q3 (by rw [hsl]; exact k2_hasslot (q4 j hj)) rfl rfl d fun H' e1 e2 e3 => ?_
  rw [hsl] at e1 ⊢
  refine kk r h H' _ (xRel_put hR A.1 (e := .inr (ci, ((List.range N).map (fun j => xV (xXE X).2.2 w σ (xFT ci j) k j)).set j v)) ⟨_, K.1, t_OB.to (V := updV (vp_V _) j v) ⟨_, e1, q2, q3, t_set q4 hap hj v⟩ (fun i _ => vp_updV_set (by simpa using hj) v i)⟩ ?_ (fun k' hk' => xC_put hk') e2 e3) ls hl
  rw [xC_obj A.2]
  exact congrArg (fun q => Sum.inr (ci, q)) (xfs_set (by rw [K.2.2.2.2]; exact hv) (fun i hi => xV_put hi))
theorem x_putF (C : xCx X cc own ret rm nL) {ci N index k : Nat} (j : Nat) {Cn ref : String} {T : u_T} {ty : Nat → FieldType} {v : Value} (x : Int) (K : xCls ci Cn T N ty) (A : xAt w k (20 + ci) N) (hj : j < N) (hlink : Cond.fieldLink own index ref (T j).2.1 (T j).2.2.1 ∈ GW) (href : (T j).1 = ref) (hfin : (T j).2.2.2 = true) (hin2 : (xXd X).name = "<init>") (hdecl : (T j).1 = own) (hn : narrow (ty j) v = v) (hfit : fits (ty j) v = true) (hv : xV (xXE X).2.2 w (xput σ k j x) (ty j) k j = v) (d : decode cc pc = .ok (.putfield index, 3)) (kk : WO X Qf w (xput σ k j x) (pc + 3) L st o) : WO X Qf w σ pc L (v :: .ref (xqa (xXE X).2.2 k) :: st) o := by
  intro r h H locs hR ls hl
  subst href
  have hap := va_apart (own := own) (cl := vwCl) C.2.2.2.2.1 K.2.1 ty K.2.2.1 K.2.2.2.1 C.2.2.2.2.2.1 K.1
  obtain ⟨r0, h1, cell, q1, q2, q3, q4⟩ := hR.1 (xqi k) _ ((xws_get A.1).trans (by rw [xC_obj A.2]))
  have hr : r0 = (Cn, T, N) := Option.some.inj (h1.symm.trans K.1)
  subst hr
  obtain ⟨hS, hfc, kC, hkC, hkind⟩ := C.2.2.2.2.2.1.1 ci _ K.1
  obtain ⟨cf, kf, fi, f, hi, hsl⟩ := hS j hj
  have hlay := C.2.2.2.2.1 _ (K.2.1 _ (u_in_lay hj))
  unfold u_lay at hlay
  rw [if_pos hfin] at hlay
  have hst := (u_facts hfc hkC (u_lays C.2.2.2.2.1 K.2.1 hj) hi).1
  have hcf : (xXm X).cls = cf := by
    obtain ⟨_, _, c', _, _, _, -, -, hf', -, -, -, hown2, -⟩ := Cond.laysFinal_spec hlay
    have e1 : c' = cf := by have := hi.symm.trans hf'; simp at this; exact this.1.symm
    rw [hdecl] at hown2
    rw [← e1]; exact Option.some.inj (C.2.2.2.1.symm.trans hown2)
  have h6 := u_fits hfc hkC hkind (Or.inr hlay) hi (K.2.2.1 j hj) hn hfit
  refine W.putFinK C.1 C.2.1 C.2.2.2.1 (C.2.2.2.2.1 _ hlink) hi hst hcf hin2 (by rw [q2]; exact h6) q1 q3 (by rw [hsl]; exact k2_hasslot (q4 j hj)) rfl rfl d fun H' e1 e2 e3 => ?_
  rw [hsl] at e1 ⊢
  refine kk r h H' _ (xRel_put hR A.1 (e := .inr (ci, ((List.range N).map (fun j => xV (xXE X).2.2 w σ (xFT ci j) k j)).set j v)) ⟨_, K.1, t_OB.to (V := updV (vp_V _) j v) ⟨_, e1, q2, q3, t_set q4 hap hj v⟩ (fun i _ => vp_updV_set (by simpa using hj) v i)⟩ ?_ (fun k' hk' => xC_put hk') e2 e3) ls hl
  rw [xC_obj A.2]
  exact congrArg (fun q => Sum.inr (ci, q)) (xfs_set (by rw [K.2.2.2.2]; exact hv) (fun i hi => xV_put hi))
theorem x_iald (C : xCx X cc own ret rm nL) {k n : Nat} {i i' : Int} (A : xAt w k 0 n) (hi' : zI i = i') (d : decode cc pc = .ok (.iaload, 1)) (kk : 0 ≤ i' ∧ i' < (n : Int) → WO X Qf w σ (pc + 1) L (iV (σ k i'.toNat) :: st) o) : WO X Qf w σ pc L (iV i :: .ref (xqa (xXE X).2.2 k) :: st) (xck i' n o) := by
  subst hi'
  refine x_ck fun hi r h H locs hR ls hl => ?_
  have ha : (xws (xXE X) w σ)[xqi k]? = some (xqa (xXE X).2.2 k, .inl ((xXE X).2.1.1 0, n, .inl (fun j => Int32.ofInt (σ k j)))) := (xws_get A.1).trans (by rw [xC_0 A.2])
  exact va_iald C.1 C.2.1 C.2.2.2.2.2.1 hR.1 (xqi k) 0 ha rfl (xin hi) d (kk hi r h H locs hR ls hl)
theorem x_bald (C : xCx X cc own ret rm nL) {k n : Nat} {i i' : Int} (A : xAt w k 2 n) (hi' : zI i = i') (d : decode cc pc = .ok (.baload, 1)) (kk : 0 ≤ i' ∧ i' < (n : Int) → WO X Qf w σ (pc + 1) L (iV (σ k i'.toNat) :: st) o) : WO X Qf w σ pc L (iV i :: .ref (xqa (xXE X).2.2 k) :: st) (xck i' n o) := by
  subst hi'
  refine x_ck fun hi r h H locs hR ls hl => ?_
  have ha : (xws (xXE X) w σ)[xqi k]? = some (xqa (xXE X).2.2 k, .inl ((xXE X).2.1.1 2, n, .inl (fun j => Int32.ofInt (σ k j)))) := (xws_get A.1).trans (by rw [xC_2 A.2])
  exact va_bald C.1 C.2.1 C.2.2.2.2.2.1 hR.1 (xqi k) 2 ha rfl (xin hi) d (kk hi r h H locs hR ls hl)
theorem x_zald (C : xCx X cc own ret rm nL) {k n : Nat} {i i' : Int} (A : xAt w k 3 n) (hi' : zI i = i') (d : decode cc pc = .ok (.baload, 1)) (kk : 0 ≤ i' ∧ i' < (n : Int) → WO X Qf w σ (pc + 1) L (iV (σ k i'.toNat) :: st) o) : WO X Qf w σ pc L (iV i :: .ref (xqa (xXE X).2.2 k) :: st) (xck i' n o) := by
  subst hi'
  refine x_ck fun hi r h H locs hR ls hl => ?_
  have ha : (xws (xXE X) w σ)[xqi k]? = some (xqa (xXE X).2.2 k, .inl ((xXE X).2.1.1 3, n, .inl (fun j => Int32.ofInt (σ k j)))) := (xws_get A.1).trans (by rw [xC_3 A.2])
  exact va_zald C.1 C.2.1 C.2.2.2.2.2.1 hR.1 (xqi k) 3 ha rfl (xin hi) d (kk hi r h H locs hR ls hl)
theorem x_lald (C : xCx X cc own ret rm nL) {k n : Nat} {i i' : Int} (A : xAt w k 1 n) (hi' : zI i = i') (d : decode cc pc = .ok (.laload, 1)) (kk : 0 ≤ i' ∧ i' < (n : Int) → WO X Qf w σ (pc + 1) L (jV (σ k i'.toNat) :: st) o) : WO X Qf w σ pc L (iV i :: .ref (xqa (xXE X).2.2 k) :: st) (xck i' n o) := by
  subst hi'
  refine x_ck fun hi r h H locs hR ls hl => ?_
  have ha : (xws (xXE X) w σ)[xqi k]? = some (xqa (xXE X).2.2 k, .inl ((xXE X).2.1.1 1, n, .inr (.inl (fun j => Int64.ofInt (σ k j))))) := (xws_get A.1).trans (by rw [xC_1 A.2])
  exact va_lald C.1 C.2.1 C.2.2.2.2.2.1 hR.1 (xqi k) 1 ha rfl (xin hi) d (kk hi r h H locs hR ls hl)
theorem xC_r {E : xE} {k c n : Nat} (hc : 4 ≤ c ∧ c ≤ 7) (h : w.2.1 k = (c, n)) : xC E w σ k = .inl (E.2.1.1 c, n, .inr (.inr (.inr (.inr (fun j => (w.2.2 k j (σ k j)).map (xqa E.2.2)))))) := by
  obtain ⟨h4, h7⟩ := hc
  have hh : c = 4 ∨ c = 5 ∨ c = 6 ∨ c = 7 := by omega
  unfold xC
  rw [h]
  rcases hh with rfl | rfl | rfl | rfl <;> rfl
theorem x_aald (C : xCx X cc own ret rm nL) {k c n k' : Nat} {i i' : Int} (A : xAt w k c n) (hc : 4 ≤ c ∧ c ≤ 7) (hi' : zI i = i') (hr : 0 ≤ i' ∧ i' < (n : Int) → w.2.2 k i'.toNat (σ k i'.toNat) = some k') (d : decode cc pc = .ok (.aaload, 1)) (kk : 0 ≤ i' ∧ i' < (n : Int) → WO X Qf w σ (pc + 1) L (.ref (xqa (xXE X).2.2 k') :: st) o) : WO X Qf w σ pc L (iV i :: .ref (xqa (xXE X).2.2 k) :: st) (xck i' n o) := by
  subst hi'
  refine x_ck fun hi r h H locs hR ls hl => ?_
  have hlt : (zI i).toNat < n := by omega
  obtain ⟨h4, h7⟩ := hc
  have hty : ∃ ty : FieldType, (xtys (xXE X).2.1.1)[c]? = some ((xXE X).2.1.1 c, ty) ∧ ty.isReference = true := by
    have hh : c = 4 ∨ c = 5 ∨ c = 6 ∨ c = 7 := by omega
    rcases hh with rfl | rfl | rfl | rfl <;> exact ⟨_, rfl, rfl⟩
  obtain ⟨ty, ht, hrf⟩ := hty
  have ha := (xws_get (E := xXE X) (σ := σ) A.1).trans (by rw [xC_r ⟨h4, h7⟩ A.2])
  have hv : va_rf ((w.2.2 k (zI i).toNat (σ k (zI i).toNat)).map (xqa (xXE X).2.2)) = .ref (xqa (xXE X).2.2 k') := by rw [hr hi]; rfl
  exact W.aald (v := .ref (xqa (xXE X).2.2 k')) (ty := ty) C.1 C.2.1 (hR.1 (xqi k) _ ha) ((C.2.2.2.2.2.1.2 c _ ht).1 n (fun j => va_rf _)) hrf (fun q => by cases q) (by show ¬ (Int32.ofInt i < 0 ∨ (arrV _ _ _).slots.size ≤ _); rw [arrV_size]; exact xin hi) (by show (arrV _ _ _).slots[(zI i).toNat]? = _; rw [arrV_read _ _ hlt]; exact congrArg some hv) rfl rfl d (kk hi r h H locs hR ls hl)
theorem xast {D : va_G} {cA : ClassId} {n q : Nat} {f : Nat → Int32} {H1 : Heap} {cl : List vw_C} {cell : Cell} (e : H1[q]? = some cell) (h : cell = vp_cell cA (n, .inl f)) : va_at D cl (q, .inl (cA, n, .inl f)) H1 := by
  show H1[q]? = some (vp_cell _ _)
  rw [e, h]
theorem x_iast (C : xCx X cc own ret rm nL) {k n : Nat} {i i' x : Int} (A : xAt w k 0 n) (hi' : zI i = i') (d : decode cc pc = .ok (.iastore, 1)) (kk : 0 ≤ i' ∧ i' < (n : Int) → WO X Qf w (xput σ k i'.toNat (x)) (pc + 1) L st o) : WO X Qf w σ pc L (iV x :: iV i :: .ref (xqa (xXE X).2.2 k) :: st) (xck i' n o) := by
  subst hi'
  refine x_ck fun hi r h H locs hR ls hl => ?_
  have ha := (xws_get (E := xXE X) (σ := σ) A.1).trans (by rw [xC_0 A.2])
  refine W.iast C.1 C.2.1 (hR.1 (xqi k) _ ha) ((C.2.2.2.2.2.1.2 0 _ rfl).1 n (fun j => .int (Int32.ofInt (σ k j)))) (fun q => by cases q) (by show ¬ (Int32.ofInt i < 0 ∨ (arrV _ _ _).slots.size ≤ _); rw [arrV_size]; exact xin hi) rfl rfl d fun H1 e z oq => ?_
  refine kk hi r h H1 _ (xRel_put hR A.1 (e := .inl ((xXE X).2.1.1 0, n, .inl (fun j => Int32.ofInt ((xput σ k (zI i).toNat (x)) k j)))) (xast e ?_) (by rw [xC_0 A.2]) (fun k' hk' => xC_put hk') z oq) ls hl
  rw [vp_cell_i, vp_cell_i, arrV_store]
  refine congrArg (arrV _ n) (funext fun q => ?_)
  by_cases hq : q = (zI i).toNat
  · subst hq
    simp only [updV, zI_tn, if_true, xput_at, zb, zz, Int32.ofInt_toInt]
    try rfl
  · simp [updV, xput, hq, zI_tn]
theorem x_bast (C : xCx X cc own ret rm nL) {k n : Nat} {i i' x : Int} (A : xAt w k 2 n) (hi' : zI i = i') (d : decode cc pc = .ok (.bastore, 1)) (kk : 0 ≤ i' ∧ i' < (n : Int) → WO X Qf w (xput σ k i'.toNat (zb x)) (pc + 1) L st o) : WO X Qf w σ pc L (iV x :: iV i :: .ref (xqa (xXE X).2.2 k) :: st) (xck i' n o) := by
  subst hi'
  refine x_ck fun hi r h H locs hR ls hl => ?_
  have ha := (xws_get (E := xXE X) (σ := σ) A.1).trans (by rw [xC_2 A.2])
  refine W.bast C.1 C.2.1 (hR.1 (xqi k) _ ha) ((C.2.2.2.2.2.1.2 2 _ rfl).1 n (fun j => .int (Int32.ofInt (σ k j)))) (fun q => by cases q) (by show ¬ (Int32.ofInt i < 0 ∨ (arrV _ _ _).slots.size ≤ _); rw [arrV_size]; exact xin hi) rfl rfl d fun H1 e z oq => ?_
  refine kk hi r h H1 _ (xRel_put hR A.1 (e := .inl ((xXE X).2.1.1 2, n, .inl (fun j => Int32.ofInt ((xput σ k (zI i).toNat (zb x)) k j)))) (xast e ?_) (by rw [xC_2 A.2]) (fun k' hk' => xC_put hk') z oq) ls hl
  rw [vp_cell_i, vp_cell_i, arrV_store]
  refine congrArg (arrV _ n) (funext fun q => ?_)
  by_cases hq : q = (zI i).toNat
  · subst hq
    simp only [updV, zI_tn, if_true, xput_at, zb, zz, Int32.ofInt_toInt]
    try rfl
  · simp [updV, xput, hq, zI_tn]
theorem x_zast (C : xCx X cc own ret rm nL) {k n : Nat} {i i' x : Int} (A : xAt w k 3 n) (hi' : zI i = i') (d : decode cc pc = .ok (.bastore, 1)) (kk : 0 ≤ i' ∧ i' < (n : Int) → WO X Qf w (xput σ k i'.toNat (zz x)) (pc + 1) L st o) : WO X Qf w σ pc L (iV x :: iV i :: .ref (xqa (xXE X).2.2 k) :: st) (xck i' n o) := by
  subst hi'
  refine x_ck fun hi r h H locs hR ls hl => ?_
  have ha := (xws_get (E := xXE X) (σ := σ) A.1).trans (by rw [xC_3 A.2])
  refine W.zast C.1 C.2.1 (hR.1 (xqi k) _ ha) ((C.2.2.2.2.2.1.2 3 _ rfl).1 n (fun j => .int (Int32.ofInt (σ k j)))) (fun q => by cases q) (by show ¬ (Int32.ofInt i < 0 ∨ (arrV _ _ _).slots.size ≤ _); rw [arrV_size]; exact xin hi) rfl rfl d fun H1 e z oq => ?_
  refine kk hi r h H1 _ (xRel_put hR A.1 (e := .inl ((xXE X).2.1.1 3, n, .inl (fun j => Int32.ofInt ((xput σ k (zI i).toNat (zz x)) k j)))) (xast e ?_) (by rw [xC_3 A.2]) (fun k' hk' => xC_put hk') z oq) ls hl
  rw [vp_cell_i, vp_cell_i, arrV_store]
  refine congrArg (arrV _ n) (funext fun q => ?_)
  by_cases hq : q = (zI i).toNat
  · subst hq
    simp only [updV, zI_tn, if_true, xput_at, zb, zz, Int32.ofInt_toInt]
    try rfl
  · simp [updV, xput, hq, zI_tn]
theorem x_last (C : xCx X cc own ret rm nL) {k n : Nat} {i i' x : Int} (A : xAt w k 1 n) (hi' : zI i = i') (d : decode cc pc = .ok (.lastore, 1)) (kk : 0 ≤ i' ∧ i' < (n : Int) → WO X Qf w (xput σ k i'.toNat x) (pc + 1) L st o) : WO X Qf w σ pc L (jV x :: iV i :: .ref (xqa (xXE X).2.2 k) :: st) (xck i' n o) := by
  subst hi'
  refine x_ck fun hi r h H locs hR ls hl => ?_
  have ha := (xws_get (E := xXE X) (σ := σ) A.1).trans (by rw [xC_1 A.2])
  refine W.last C.1 C.2.1 (hR.1 (xqi k) _ ha) ((C.2.2.2.2.2.1.2 1 _ rfl).1 n (fun j => .long (Int64.ofInt (σ k j)))) (fun q => by cases q) (by show ¬ (Int32.ofInt i < 0 ∨ (arrV _ _ _).slots.size ≤ _); rw [arrV_size]; exact xin hi) rfl rfl d fun H1 e z oq => ?_
  refine kk hi r h H1 _ (xRel_put hR A.1 (e := .inl ((xXE X).2.1.1 1, n, .inr (.inl (fun j => Int64.ofInt ((xput σ k (zI i).toNat x) k j))))) ?_ (by rw [xC_1 A.2]) (fun k' hk' => xC_put hk') z oq) ls hl
  show H1[_]? = some (vp_cell _ _)
  rw [e, vp_cell_l, vp_cell_l, arrV_store, xputL_row]
  congr 2
  funext q
  by_cases hq : q = (zI i).toNat
  · subst hq
    simp [updV, vp_updL, zI_tn, xput_at]
  · simp [updV, vp_updL, xput, hq, zI_tn]
theorem x_alen (C : xCx X cc own ret rm nL) {k c n : Nat} (v : Int) (A : xAt w k c n) (hc : c < 8) (hv : Int32.ofNat n = Int32.ofInt v) (d : decode cc pc = .ok (.arraylength, 1)) (kk : WO X Qf w σ (pc + 1) L (iV v :: st) o) : WO X Qf w σ pc L (.ref (xqa (xXE X).2.2 k) :: st) o := by
  intro r h H locs hR ls hl
  have hh : c = 0 ∨ c = 1 ∨ c = 2 ∨ c = 3 ∨ c = 4 ∨ c = 5 ∨ c = 6 ∨ c = 7 := by omega
  rcases hh with rfl | rfl | rfl | rfl | rfl | rfl | rfl | rfl
  · exact va_alen C.1 C.2.1 C.2.2.2.2.2.1 hR.1 (xqi k) 0 ((xws_get A.1).trans (by rw [xC_0 A.2])) rfl hv d (kk r h H locs hR ls hl)
  · exact va_alen C.1 C.2.1 C.2.2.2.2.2.1 hR.1 (xqi k) 1 ((xws_get A.1).trans (by rw [xC_1 A.2])) rfl hv d (kk r h H locs hR ls hl)
  · exact va_alen C.1 C.2.1 C.2.2.2.2.2.1 hR.1 (xqi k) 2 ((xws_get A.1).trans (by rw [xC_2 A.2])) rfl hv d (kk r h H locs hR ls hl)
  · exact va_alen C.1 C.2.1 C.2.2.2.2.2.1 hR.1 (xqi k) 3 ((xws_get A.1).trans (by rw [xC_3 A.2])) rfl hv d (kk r h H locs hR ls hl)
  · exact va_alen C.1 C.2.1 C.2.2.2.2.2.1 hR.1 (xqi k) 4 ((xws_get A.1).trans (by rw [xC_r (by omega) A.2])) rfl hv d (kk r h H locs hR ls hl)
  · exact va_alen C.1 C.2.1 C.2.2.2.2.2.1 hR.1 (xqi k) 5 ((xws_get A.1).trans (by rw [xC_r (by omega) A.2])) rfl hv d (kk r h H locs hR ls hl)
  · exact va_alen C.1 C.2.1 C.2.2.2.2.2.1 hR.1 (xqi k) 6 ((xws_get A.1).trans (by rw [xC_r (by omega) A.2])) rfl hv d (kk r h H locs hR ls hl)
  · exact va_alen C.1 C.2.1 C.2.2.2.2.2.1 hR.1 (xqi k) 7 ((xws_get A.1).trans (by rw [xC_r (by omega) A.2])) rfl hv d (kk r h H locs hR ls hl)
end XROWS
section XCALLS
variable {ρ : Type} {X : xX} {cc : ByteArray} {own : String} {ret : Option FieldType} {rm : Room} {nL : Nat} {w w' : xW} {σ : xS} {pc : Nat} {L : List (Nat × Value)} {st : List Value} {o : Option ρ}
/-- the end that a method's contract asks for -/
def xQf (X : xX) (w' : xW) (r : Option Value × xS) : State → Prop := MQ (xXb X) (xQ (xXE X) w' r) (xXa X) (xXs X) (xXk X) (xXz X) (xA (xXE X))
theorem xK_moved {E : xE} {u U : State} (h : u.vm.Alike U.vm) (k : xK E u) : xK E U := va_K.moved h k
theorem xQ_end {H : Heap} {locs : List Loc} {v : Option Value} (C : xCx X cc own ret rm nL) (hR : xRel (xXE X) w' σ (xXs X).heap H locs) : ∀ t : State, t.heap = H → (xXs X).WarmedH t.vm → xQ (xXE X) w' (v, σ) (xXa X) (xXs X) (.returned v) t :=
  fun t ht hW => ⟨rfl, ⟨by rw [ht]; exact hR.1, by rw [ht]; exact hR.2.1, xK_moved hW.alike C.2.2.2.2.2.1⟩, hR.2.2.F ht⟩
theorem x_iret (C : xCx X cc own ret rm nL) {v : Int} (hr : ret = some .int) (d : decode cc pc = .ok (.ireturn, 1)) : WO X (xQf X w') w' σ pc L [iV v] (some (some (iV v), σ)) := by
  intro r h H locs hR ls hl
  cases h
  exact W.iret C.1 C.2.1 (C.2.2.2.2.2.2.2.2.1.trans hr) (xQ_end C hR) hR.2.2.2.2 d C.2.2.2.2.2.2.1
theorem x_zret (C : xCx X cc own ret rm nL) {v : Int} (hr : ret = some .boolean) (d : decode cc pc = .ok (.ireturn, 1)) : WO X (xQf X w') w' σ pc L [iV v] (xbo v (some (some (iV v), σ))) := by
  refine x_bo fun hv => ?_
  intro r h H locs hR ls hl
  cases h
  exact W.zret C.1 C.2.1 (C.2.2.2.2.2.2.2.2.1.trans hr) (by rcases hv with rfl | rfl <;> rfl) (xQ_end C hR) hR.2.2.2.2 d C.2.2.2.2.2.2.1
theorem x_lret (C : xCx X cc own ret rm nL) {v : Int} (hr : ret = some .long) (d : decode cc pc = .ok (.lreturn, 1)) : WO X (xQf X w') w' σ pc L [jV v] (some (some (jV v), σ)) := by
  intro r h H locs hR ls hl
  cases h
  exact W.lret C.1 C.2.1 (C.2.2.2.2.2.2.2.2.1.trans hr) (xQ_end C hR) hR.2.2.2.2 d C.2.2.2.2.2.2.1
theorem x_vret (C : xCx X cc own ret rm nL) (hr : ret = none) (d : decode cc pc = .ok (.return_, 1)) : WO X (xQf X w') w' σ pc L [] (some (none, σ)) := by
  intro r h H locs hR ls hl
  cases h
  exact W.vret C.1 C.2.1 (C.2.2.2.2.2.2.2.2.1.trans hr) (xQ_end C hR) hR.2.2.2.2 d C.2.2.2.2.2.2.1
theorem x_aret (C : xCx X cc own ret rm nL) {a : Nat} {n : String} (hr : ret = some (.object n)) (d : decode cc pc = .ok (.areturn, 1)) : WO X (xQf X w') w' σ pc L [.ref a] (some (some (.ref a), σ)) := by
  intro r h H locs hR ls hl
  cases h
  exact W.aret C.1 C.2.1 (C.2.2.2.2.2.2.2.2.1.trans hr) (Or.inl ⟨_, rfl⟩) (Or.inr ⟨_, rfl⟩) (xQ_end C hR) hR.2.2.2.2 d C.2.2.2.2.2.2.1
/-- a contract from the walk of its body -/
theorem xMet.of {l : Launch} {E : xE} {y : MethodName} {b : ByteArray} {nL : Nat} {ret : Option FieldType} {rm : Room} {as : List Value} {w w' : xW} {σ : xS} {res : Option (Option Value × xS)} (hy : plainName y.cls = true) (hn : (lg_sl as).length ≤ nL)
    (k : ∀ X : xX, E = xXE X → xXk X = 0 → xXz X = 0 → (xXd X).name = y.name → xCx X b y.cls ret rm nL → WO X (fun r => MQ (xXb X) (xQ (xXE X) w' r) (xXa X) (xXs X) rm.cells rm.slots (xA (xXE X))) w σ 0 (lv_args 0 as) [] res) : xMet l E y b nL ret rm as w w' σ res := by
  intro r hr
  refine Met.ofW (cc := b) (maxL := nL) (ret := ret) hy rfl ?_
  intro p e s m args below meth c s₁ B hml hv
  obtain ⟨rfl, ⟨hP, hsz, hK⟩, hNw, hAm, hAmC⟩ := hv
  have hts := atoms_spec (ws := .code y b nL ret :: GW) B.pre
  by_cases hz : E.2.2 ≤ s.heap.size
  · have C : xCx (p, l, e, rm, s, m, as.toArray, below, meth, c, E, nL, 0, 0) b y.cls ret rm nL := ⟨B.exec, B.bytes, hml, findClass_of_methodNamed B.named, fun w hw => hts w (List.mem_cons_of_mem _ hw), hK, B.notSynchronized, hz, B.returns, rfl, rfl, ⟨Nat.zero_le _, Nat.zero_le _⟩, hNw, hAm, hAmC⟩
    have hl := lv_entry as hn
    rw [lg_entry_eq]
    exact k _ rfl rfl rfl (name_of_methodNamed B.named B.method).1 C r hr s.heap [] ⟨hP, hsz, va_S.rf⟩ _ hl
  · exact absurd (Nat.le_trans (Nat.le_add_right _ _) hsz.1.1) hz
/-- the same where no cell comes -/
theorem xMet.of0 {l : Launch} {E : xE} {y : MethodName} {b : ByteArray} {nL : Nat} {ret : Option FieldType} {rm : Room} {as : List Value} {w w' : xW} {σ : xS} {res : Option (Option Value × xS)} (hy : plainName y.cls = true) (hn : (lg_sl as).length ≤ nL) (hc : rm.cells = 0) (hz : rm.slots = 0)
    (k : ∀ X : xX, E = xXE X → xCx X b y.cls ret rm nL → WO X (xQf X w') w σ 0 (lv_args 0 as) [] res) : xMet l E y b nL ret rm as w w' σ res := by
  refine xMet.of hy hn fun X hE hk hs _ C => ?_
  have h := k X hE C
  unfold xQf at h
  rw [hk, hs] at h
  rw [hc, hz]
  exact h
/-- what a method's name stands for, once for all calls -/
def xMth (y : MethodName) (b : ByteArray) (nL : Nat) (ret : Option FieldType) (n : Nat) : Prop := Cond.code y b nL ret ∈ GW ∧ Cond.initialized y.cls ∈ GW ∧ (y.cls ≠ "java/lang/invoke/MethodHandle" ∧ y.cls ≠ "java/lang/invoke/VarHandle" ∧ (parseMethodDescriptor y.desc).map (fun d => d.parameters.length) = some n)
def xVir (y : MethodName) : Prop := Cond.instanceMethod y ∈ GW ∧ Cond.selects y.cls y y ∈ GW
theorem GW_in {ws : List Cond} (h : ∀ w ∈ ws, w ∈ GW) : GoodIn GW ws := fun w hw => ⟨h w hw, good_of_word (GW_good w (h w hw))⟩
theorem GW_cons {y : MethodName} {b : ByteArray} {nL : Nat} {ret : Option FieldType} (h : Cond.code y b nL ret ∈ GW) : ∀ w ∈ (Cond.code y b nL ret :: GW), w ∈ GW := fun w hw => by
  rcases List.mem_cons.mp hw with rfl | hw
  · exact h
  · exact hw
theorem xPre_blind {E : xE} {σ : xS} {as : List Value} : FrameBlind (va_Pc as (xPre E w σ)) := fun a U g mk q => by
  obtain ⟨q0, ⟨q1, q2, q3⟩, q4, q5, q6⟩ := q
  have hW : U.WarmedH (U.calling g mk a).vm := State.WarmedH.refl U
  exact ⟨q0, ⟨q1, q2, xK_moved (u := U) (U := U.calling g mk a) (Vm.Alike.refl U.vm) q3⟩, xNw_warm hW q4, q6 U _ U.heap _ hW (fun _ _ _ => rfl) q5, q6⟩
theorem xPre_of {H : Heap} {locs : List Loc} (C : xCx X cc own ret rm nL) (hR : xRel (xXE X) w σ (xXs X).heap H locs) : ∀ U : State, U.heap = H → (xXs X).WarmedH U.vm → xPre (xXE X) w σ U := fun U hU hW => ⟨⟨by rw [hU]; exact hR.1, by rw [hU]; exact hR.2.1, xK_moved hW.alike C.2.2.2.2.2.1⟩, xNw_warm hW C.2.2.2.2.2.2.2.2.2.2.2.2.1, C.2.2.2.2.2.2.2.2.2.2.2.2.2.2 _ U _ _ hW (fun a ha hA => by rw [hU]; exact hR.2.2.2.1 a ha hA) C.2.2.2.2.2.2.2.2.2.2.2.2.2.1, C.2.2.2.2.2.2.2.2.2.2.2.2.2.2⟩
theorem x_ran {Qf : ρ → State → Prop} {ls : Array Slot} {H : Heap} {locs : List Loc} {st0 rest : List Value} {a : Array Value} {mc ms : Nat} (C : xCx X cc own ret rm nL) (hR : xRel (xXE X) w σ (xXs X).heap H locs) (hl : lv_has ls (xXn X) L) {r0 : ρ} (ho : o = some r0)
    {r : Option Value × xS} (hr : va_Run (xXp X) (xXl X) (xXe X) (xXR X) (xXs X) (xXm X) (xXa X) (xXb X) (xXd X) (xXc X) H locs (xXk X) (xXz X) mc ms (F0 (xXm X) pc ls st0) rest (xQ (xXE X) w' r a) (xA (xXE X)))
    (kk : ∀ H1 locs1, xRel (xXE X) w' r.2 (xXs X).heap H1 locs1 → W (xXp X) (xXl X) (xXe X) (xXR X) (xXs X) (xXm X) (xXa X) (xXb X) (xXd X) (xXc X) H1 locs1 (xXk X + mc) (xXz X + ms) (Qf r0) (F0 (xXm X) (pc + 3) ls (r.1.toList ++ rest))) :
    W (xXp X) (xXl X) (xXe X) (xXR X) (xXs X) (xXm X) (xXa X) (xXb X) (xXd X) (xXc X) H locs (xXk X) (xXz X) (Qf r0) (F0 (xXm X) pc ls st0) := by
  intro T hT XX
  obtain ⟨v, st₀, t, T', L', h0, X', hL, e1, e2, ⟨hv, ⟨hp1, hp2, hp3⟩, hz, hk⟩, stp⟩ := hr T hT XX
  cases hv
  rw [h0] at hz hk
  have hS := hR.2.2
  obtain ⟨t2, a1, b1⟩ := kk T'.heap (locs ++ L') ⟨by rw [e1]; exact hp1, by rw [e1]; exact hp2, Nat.le_trans hS.1 (by rw [e1]; exact hz), fun q h1 h2 => by rw [e1, hk q (Nat.lt_of_lt_of_le h1 hS.1) h2]; exact hS.2.1 q h1 h2, fun q hq => by
      rcases List.mem_append.mp hq with h | h
      · exact hS.2.2 q h
      · exact hL q h⟩ T' rfl X'
  exact ⟨t2, stp t2 a1, b1⟩
section
variable {Qf : ρ → State → Prop} {y : MethodName} {b' : ByteArray} {nL' n idx : Nat} {ret' : Option FieldType} {rm' : Room} {As : List Value} {res : Option (Option Value × xS)}
/-- how the walk goes on behind a call -/
def xKK (X : xX) (Qf : ρ → State → Prop) (w' : xW) (pc : Nat) (L : List (Nat × Value)) (st : List Value) (res : Option (Option Value × xS)) (o : Option ρ) : Prop :=
  ∀ r0, o = some r0 → ∃ r, res = some r ∧ ∀ (H : Heap) (locs : List Loc), xRel (xXE X) w' r.2 (xXs X).heap H locs → ∀ ls : Array Slot, lv_has ls (xXn X) L →
    W (xXp X) (xXl X) (xXe X) (xXR X) (xXs X) (xXm X) (xXa X) (xXb X) (xXd X) (xXc X) H locs (xXk X) (xXz X) (Qf r0) (F0 (xXm X) pc ls (r.1.toList ++ st))
theorem kP {v : Value} (k : WO X Qf w' σ pc L (v :: st) o) : xKK X Qf w' pc L st (some (some v, σ)) o := fun r0 h => ⟨_, rfl, k r0 h⟩
theorem kI {o1 : Option Int} {f : Int → Option ρ} (k : ∀ v, WO X Qf w' σ pc L (iV v :: st) (f v)) : xKK X Qf w' pc L st (xrI o1 σ) (o1.bind f) := by
  intro r0 h
  cases o1 with
  | none => cases h
  | some v => exact ⟨_, rfl, k v r0 h⟩
theorem kL {o1 : Option Int} {f : Int → Option ρ} (k : ∀ v, WO X Qf w' σ pc L (jV v :: st) (f v)) : xKK X Qf w' pc L st (xrL o1 σ) (o1.bind f) := by
  intro r0 h
  cases o1 with
  | none => cases h
  | some v => exact ⟨_, rfl, k v r0 h⟩
theorem kS {o1 : Option (Int × xS)} {f : Int → xS → Option ρ} (k : ∀ v τ, WO X Qf w' τ pc L (iV v :: st) (f v τ)) : xKK X Qf w' pc L st (xrS o1) (xbS o1 f) := by
  intro r0 h
  cases o1 with
  | none => cases h
  | some v => exact ⟨_, rfl, k v.1 v.2 r0 h⟩
theorem kT {o1 : Option (Int × xS)} {f : Int → xS → Option ρ} (k : ∀ v τ, WO X Qf w' τ pc L (jV v :: st) (f v τ)) : xKK X Qf w' pc L st (xrT o1) (xbS o1 f) := by
  intro r0 h
  cases o1 with
  | none => cases h
  | some v => exact ⟨_, rfl, k v.1 v.2 r0 h⟩
theorem kV {o1 : Option xS} {f : xS → Option ρ} (k : ∀ τ, WO X Qf w' τ pc L st (f τ)) : xKK X Qf w' pc L st (xrV o1) (o1.bind f) := by
  intro r0 h
  cases o1 with
  | none => cases h
  | some v => exact ⟨_, rfl, k v r0 h⟩
theorem x_callV (C : xCx X cc own ret rm nL) {k ci N : Nat} {T : u_T} {ty : Nat → FieldType} (hM : xMet (xXl X) (xXE X) y b' nL' ret' rm' (.ref (xqa (xXE X).2.2 k) :: As) w w' σ res) (m : xMth y b' nL' ret' n) (v : xVir y) (hl : Cond.methodLink own idx y ∈ GW) (K : xCls ci y.cls T N ty) (A : xAt w k (20 + ci) N) (hn : As.length = n) (hroom : rm'.cells = 0 ∧ rm'.slots = 0 ∧ rm'.frames + 1 ≤ rm.frames ∧ 8 + (nL' + 11) + rm'.locals ≤ rm.locals) {st0 : List Value} (hst : st0 = As.reverse ++ .ref (xqa (xXE X).2.2 k) :: st) (hcat : (st.map fun v => v.category).sum ≤ 8) (d : decode cc pc = .ok (.invokevirtual idx, 3))
    (kk : xKK X Qf w' (pc + 3) L st res o) : WO X Qf w σ pc L st0 o := by
  intro r0 h H locs hR ls hls
  obtain ⟨r, hres, kk⟩ := kk r0 h
  have hR' : xXR X = rm := C.2.2.2.2.2.2.2.2.2.1
  obtain ⟨hrc, hrs, hf1, hf2⟩ := hroom
  have hf := C.2.2.2.2.2.2.2.2.2.2.2.1
  refine x_ran C hR hls h (r := r) (va_runV (n := n) (mc := rm'.cells) (ms := rm'.slots) (rest := st) ⟨C.1, C.2.1, C.2.2.1, C.2.2.2.1, C.2.2.2.2.1⟩ (hM r hres) (by
      rw [hR']
      exact cwV n C.2.2.2.2.1 (GW_in (fun w hw => by
        unfold wsV at hw
        rcases List.mem_append.mp hw with hw | hw
        · simp only [List.mem_cons, List.not_mem_nil, or_false] at hw
          rcases hw with rfl | rfl | rfl | rfl
          · exact hl
          · exact v.1
          · exact v.2
          · exact m.2.1
        · exact GW_cons m.1 w hw)) rfl rfl rfl ⟨rfl, m.2.2⟩ ⟨hf1, hf2⟩)
    ⟨xPre_blind, va_recv C.2.2.2.2.2.1 hR.1 K.1 ((xws_get A.1).trans (by rw [xC_obj A.2])), fun U hU hW => ⟨rfl, xPre_of C hR U hU hW⟩⟩ rfl hn (hls.1.trans C.2.2.2.2.2.2.2.2.2.2.1) hst (lv_room hcat) d (by rw [hR', hrc, hrs]; exact hf)) (fun H1 locs1 hR1 => ?_)
  have := kk H1 locs1 hR1 ls hls
  rw [hrc, hrs]
  exact this
theorem x_callS (C : xCx X cc own ret rm nL) (hM : xMet (xXl X) (xXE X) y b' nL' ret' rm' As w w' σ res) (m : xMth y b' nL' ret' n) (v : Cond.static y ∈ GW) (hl : Cond.methodLink own idx y ∈ GW) (hn : As.length = n) (hroom : rm'.cells = 0 ∧ rm'.slots = 0 ∧ rm'.frames + 1 ≤ rm.frames ∧ 8 + (nL' + 11) + rm'.locals ≤ rm.locals) {st0 : List Value} (hst : st0 = As.reverse ++ st) (hcat : (st.map fun v => v.category).sum ≤ 8) (d : decode cc pc = .ok (.invokestatic idx, 3))
    (kk : xKK X Qf w' (pc + 3) L st res o) : WO X Qf w σ pc L st0 o := by
  intro r0 h H locs hR ls hls
  obtain ⟨r, hres, kk⟩ := kk r0 h
  have hR' : xXR X = rm := C.2.2.2.2.2.2.2.2.2.1
  obtain ⟨hrc, hrs, hf1, hf2⟩ := hroom
  have hf := C.2.2.2.2.2.2.2.2.2.2.2.1
  refine x_ran C hR hls h (r := r) (va_runS (n := n) (mc := rm'.cells) (ms := rm'.slots) (rest := st) ⟨C.1, C.2.1, C.2.2.1, C.2.2.2.1, C.2.2.2.2.1⟩ (hM r hres) (by
      rw [hR']
      exact ⟨callB_of n C.2.2.2.2.1 (GW_in (GW_cons m.1)) rfl rfl rfl (C.2.2.2.2.1 _ m.2.1) (C.2.2.2.2.1 _ hl) m.2.2 ⟨hf1, hf2⟩, C.2.2.2.2.1 _ v⟩)
    ⟨xPre_blind, fun U hU hW => ⟨rfl, xPre_of C hR U hU hW⟩⟩ rfl hn (hls.1.trans C.2.2.2.2.2.2.2.2.2.2.1) hst (lv_room hcat) d (by rw [hR', hrc, hrs]; exact hf)) (fun H1 locs1 hR1 => ?_)
  have := kk H1 locs1 hR1 ls hls
  rw [hrc, hrs]
  exact this
end
end XCALLS
