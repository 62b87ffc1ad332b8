/-! TEMPORARY CELLS: a map M says what some cells hold that nobody else has; A: what the walk may write. One row an instruction. -/
abbrev tMp : Type := Nat → Option va_E
def tU (M : tMp) (a : Nat) (e : va_E) : tMp := fun q => if q = a then some e else M q
theorem tU_eq {M : tMp} {a : Nat} {e : va_E} : tU M a e a = some e := if_pos rfl
theorem tU_ne {M : tMp} {a q : Nat} {e : va_E} (h : q ≠ a) : tU M a e q = M q := if_neg h
def tN : tMp := fun _ => none
def tH (E : xE) (A : Nat → Prop) (M : tMp) (H : Heap) : Prop := ∃ ws : va_W, va_P E.1 vwCl ws H ∧ va_D A ws ∧ ∀ a e, M a = some e → ∃ k : Nat, ws[k]? = some (a, e)
theorem tH_put {E : xE} {A : Nat → Prop} {M : tMp} {H1 : Heap} {ws : va_W} {k0 a : Nat} {e0 e : va_E} (h0 : ws[k0]? = some (a, e0)) (hm : ∀ a e, M a = some e → ∃ k : Nat, ws[k]? = some (a, e)) (hP1 : va_P E.1 vwCl (ws.set k0 (a, e)) H1) (hD1 : va_D A (ws.set k0 (a, e))) : tH E A (tU M a e) H1 := by
  refine ⟨_, hP1, hD1, fun b f hb => ?_⟩
  by_cases c : b = a
  · subst c
    rw [tU_eq] at hb
    cases hb
    exact ⟨k0, List.getElem?_set_self (List.getElem?_eq_some_iff.mp h0).1⟩
  · rw [tU_ne c] at hb
    obtain ⟨k, hk⟩ := hm b f hb
    refine ⟨k, ?_⟩
    by_cases q : k0 = k
    · subst q
      rw [h0] at hk
      cases hk
      exact absurd rfl c
    · rw [List.getElem?_set_ne q]
      exact hk
theorem tH_new {E : xE} {A : Nat → Prop} {M : tMp} {H1 : Heap} {ws : va_W} {a : Nat} {e : va_E} (hm : ∀ a e, M a = some e → ∃ k : Nat, ws[k]? = some (a, e)) (hP1 : va_P E.1 vwCl (ws ++ [(a, e)]) H1) (hD1 : va_D A (ws ++ [(a, e)])) : tH E A (tU M a e) H1 ∧ ∀ b f, M b = some f → b ≠ a := by
  have hne : ∀ b f, M b = some f → b ≠ a := fun b f hb c => by
    subst c
    obtain ⟨k, hk⟩ := hm b f hb
    have hl := (List.getElem?_eq_some_iff.mp hk).1
    have := hD1.1 k ws.length (b, f) (b, e) (by rw [List.getElem?_append_left hl]; exact hk) (by rw [List.getElem?_append_right (Nat.le_refl _), Nat.sub_self]; rfl) rfl
    omega
  refine ⟨⟨_, hP1, hD1, fun b f hb => ?_⟩, hne⟩
  by_cases c : b = a
  · subst c
    rw [tU_eq] at hb
    cases hb
    exact ⟨ws.length, by rw [List.getElem?_append_right (Nat.le_refl _), Nat.sub_self]; rfl⟩
  · rw [tU_ne c] at hb
    obtain ⟨k, hk⟩ := hm b f hb
    exact ⟨k, by rw [List.getElem?_append_left (List.getElem?_eq_some_iff.mp hk).1]; exact hk⟩
theorem tH_mono {E : xE} {A B : Nat → Prop} {M : tMp} {H : Heap} (h : tH E A M H) (hAB : ∀ q, A q → B q) : tH E B M H := by
  obtain ⟨ws, hP, hD, hm⟩ := h
  exact ⟨ws, hP, ⟨hD.1, fun k q hk => hAB _ (hD.2 k q hk)⟩, hm⟩
theorem tH_sub {E : xE} {A : Nat → Prop} {M N : tMp} {H : Heap} (h : tH E A M H) (hN : ∀ a e, N a = some e → M a = some e) : tH E A N H := by
  obtain ⟨ws, hP, hD, hm⟩ := h
  exact ⟨ws, hP, hD, fun a e g => hm a e (hN a e g)⟩
theorem tH_A {E : xE} {A : Nat → Prop} {M : tMp} {H : Heap} (h : tH E A M H) {a : Nat} {e : va_E} (hM : M a = some e) : A a ∧ va_at E.1 vwCl (a, e) H := by
  obtain ⟨ws, hP, hD, hm⟩ := h
  obtain ⟨k, hk⟩ := hm a e hM
  exact ⟨hD.2 k _ hk, hP k _ hk⟩
theorem tH_nil {E : xE} {A : Nat → Prop} {H : Heap} : tH E A tN H := ⟨[], fun k q h => by simp at h, ⟨fun i j p q h => by simp at h, fun k q h => by simp at h⟩, fun a e h => by cases h⟩
/-- two cells alone, under a set that may be smaller -/
theorem tH_two {E : xE} {A B : Nat → Prop} {M : tMp} {H : Heap} (h : tH E A M H) {a b : Nat} {e f : va_E} (ha : M a = some e) (hb : M b = some f) (hab : a ≠ b) (hA : B a) (hB : B b) : tH E B (tU (tU tN a e) b f) H := by
  refine ⟨[(a, e), (b, f)], fun k q hk => ?_, ⟨fun i j p q hi hj hpq => ?_, fun k q hk => ?_⟩, fun c g hc => ?_⟩
  · match k, hk with
    | 0, hk => cases hk; exact (tH_A h ha).2
    | 1, hk => cases hk; exact (tH_A h hb).2
    | k + 2, hk => simp at hk
  · match i, j, hi, hj with
    | 0, 0, _, _ => rfl
    | 1, 1, _, _ => rfl
    | 0, 1, hi, hj => cases hi; cases hj; exact absurd hpq hab
    | 1, 0, hi, hj => cases hi; cases hj; exact absurd hpq.symm hab
    | i + 2, _, hi, _ => simp at hi
    | 0, j + 2, _, hj => simp at hj
    | 1, j + 2, _, hj => simp at hj
  · match k, hk with
    | 0, hk => cases hk; exact hA
    | 1, hk => cases hk; exact hB
    | k + 2, hk => simp at hk
  · by_cases c1 : c = b
    · subst c1
      rw [tU_eq] at hc
      cases hc
      exact ⟨1, rfl⟩
    · rw [tU_ne c1] at hc
      by_cases c2 : c = a
      · subst c2
        rw [tU_eq] at hc
        cases hc
        exact ⟨0, rfl⟩
      · rw [tU_ne c2] at hc
        cases hc
/-- the private methods of AbstractStringBuilder that a StringBuilder is asked for -/
def PRl : List MethodName := [yJ5_ensureCapacityInternal_d00df, yJ5_newCapacity_0f7a4, yJ5_putStringAt_47b60, yJ5_inflateIfNeededFor_a7421]
def tW (U : State) : Prop := (∀ q ∈ PRl, va_Nw (.selects "java/lang/StringBuilder" q q) U) ∧ va_Nw (.castable "[B" "java/lang/Cloneable") U ∧ xNw U
def tP (ad : Nat → Nat → Nat) (A : Nat → Prop) (U : State) (H : Heap) : Prop := tW U ∧ KW ad A U H
theorem sel_warm {C : String} {x y : MethodName} {s U : State} (hW : s.WarmedH U.vm) (h : va_Nw (.selects C x y) s) : va_Nw (.selects C x y) U :=
  pay_in (big := [Cond.selects C x y]) (ws := [Cond.selects C x y]) (args := #[]) (s := s) (fun w hw => by rw [List.mem_singleton.mp hw]; exact h) (fun w hw => ⟨hw, by rw [List.mem_singleton.mp hw]; exact Or.inl rfl⟩) _ (List.mem_singleton.mpr rfl) #[] U hW
theorem tW_warm {s U : State} (hW : s.WarmedH U.vm) (h : tW s) : tW U := ⟨fun q hq => sel_warm hW (h.1 q hq), va_Nw.warmC hW h.2.1, xNw_warm hW h.2.2⟩
/-- what else is known: strings (object, bytes, length, contents), rows of ints -/
abbrev tSs : Type := List ((Nat × Nat × Nat × (Nat → Int32)) ⊕ (Nat × Nat × (Nat → Int32)))
def tF (q : (Nat × Nat × Nat × (Nat → Int32)) ⊕ (Nat × Nat × (Nat → Int32))) (A : Nat → Prop) (U : State) (H : Heap) : Prop := match q with
  | .inl q => Str q.1 q.2.1 q.2.2.1 q.2.2.2 A U H
  | .inr q => va_T .int q.1 q.2.1 (fun j => .int (q.2.2 j)) A U H
theorem tF_kept {q : (Nat × Nat × Nat × (Nat → Int32)) ⊕ (Nat × Nat × (Nat → Int32))} {A : Nat → Prop} {s U : State} {H H1 : Heap} (hW : s.WarmedH U.vm) (hq : ∀ a : Nat, a < H.size → ¬ A a → H1[a]? = H[a]?) (h : tF q A s H) : tF q A U H1 := by
  cases q with
  | inl q => exact Str_kept hW hq h
  | inr q => exact (va_T.moved hW.alike h).kept hq
theorem va_Z_fresh {C n d : String} {v : Value} {A B : Nat → Prop} {U : State} {H : Heap} (h : va_Z C n d v A U H) (hAB : ∀ q, B q → A q ∨ H.size ≤ q) : va_Z C n d v B U H := by
  obtain ⟨cf, kf, fi, f, a, cell, h1, h2, h3, h4, h5, h6, h7, h8⟩ := h
  exact ⟨cf, kf, fi, f, a, cell, h1, h2, h3, h4, h5, h6, h7, fun hb => (hAB a hb).elim h8 (fun c => absurd (Array.getElem?_eq_some_iff.mp h5).1 (Nat.not_lt.mpr c))⟩
theorem va_Zq_fresh {C n d : String} {A B : Nat → Prop} {U : State} {H : Heap} (h : va_Zq C n d A U H) (hAB : ∀ q, B q → A q ∨ H.size ≤ q) : va_Zq C n d B U H := by
  rcases h with h | ⟨t, h⟩
  · exact Or.inl (va_Z_fresh h hAB)
  · exact Or.inr ⟨t, va_Z_fresh h hAB⟩
theorem va_O_fresh {E : String} {t : Nat} {A B : Nat → Prop} {U : State} {H : Heap} (h : va_O E t A U H) (hAB : ∀ q, B q → A q ∨ H.size ≤ q) : va_O E t B U H := by
  obtain ⟨cell, h1, h2, h3, h4⟩ := h
  exact ⟨cell, h1, h2, h3, fun hb => (hAB t hb).elim h4 (fun c => absurd (Array.getElem?_eq_some_iff.mp h1).1 (Nat.not_lt.mpr c))⟩
theorem va_OF_fresh {o n d : String} {v : Value} {t : Nat} {A B : Nat → Prop} {U : State} {H : Heap} (h : va_OF o n d v t A U H) (hAB : ∀ q, B q → A q ∨ H.size ≤ q) : va_OF o n d v t B U H := by
  obtain ⟨cf, k, i, f, cell, h1, h2, h3, h4, h5, h6⟩ := h
  exact ⟨cf, k, i, f, cell, h1, h2, h3, h4, h5, fun hb => (hAB t hb).elim h6 (fun c => absurd (Array.getElem?_eq_some_iff.mp h3).1 (Nat.not_lt.mpr c))⟩
theorem va_T_fresh {ty : FieldType} {t N : Nat} {f : Nat → Value} {A B : Nat → Prop} {U : State} {H : Heap} (h : va_T ty t N f A U H) (hAB : ∀ q, B q → A q ∨ H.size ≤ q) : va_T ty t N f B U H := by
  obtain ⟨cell, h1, h2, h3, h4, h5, h6, h7⟩ := h
  exact ⟨cell, h1, h2, h3, h4, h5, h6, fun hb => (hAB t hb).elim h7 (fun c => absurd (Array.getElem?_eq_some_iff.mp h1).1 (Nat.not_lt.mpr c))⟩
theorem Str_fresh {a v n : Nat} {f : Nat → Int32} {A B : Nat → Prop} {U : State} {H : Heap} (h : Str a v n f A U H) (hAB : ∀ q, B q → A q ∨ H.size ≤ q) : Str a v n f B U H := ⟨va_O_fresh h.1 hAB, va_OF_fresh h.2.1 hAB, va_OF_fresh h.2.2.1 hAB, va_T_fresh h.2.2.2 hAB⟩
theorem tF_fresh {q : (Nat × Nat × Nat × (Nat → Int32)) ⊕ (Nat × Nat × (Nat → Int32))} {A B : Nat → Prop} {U : State} {H : Heap} (h : tF q A U H) (hAB : ∀ q, B q → A q ∨ H.size ≤ q) : tF q B U H := by
  cases q with
  | inl q => exact Str_fresh h hAB
  | inr q => exact va_T_fresh h hAB
theorem LWc_fresh {ad : Nat → Nat → Nat} {A B : Nat → Prop} {U : State} {H : Heap} (h : LWc ad A U H) (hAB : ∀ q, B q → A q ∨ H.size ≤ q) : LWc ad B U H := ⟨fun i hi => Str_fresh (h.1 i hi) hAB, h.2.1, va_Z_fresh h.2.2.1 hAB, va_T_fresh h.2.2.2.1 hAB, va_Z_fresh h.2.2.2.2.1 hAB, va_T_fresh h.2.2.2.2.2 hAB⟩
theorem KW_fresh {ad : Nat → Nat → Nat} {A B : Nat → Prop} {U : State} {H : Heap} (h : KW ad A U H) (hAB : ∀ q, B q → A q ∨ H.size ≤ q) : KW ad B U H := by
  obtain ⟨h1, h2, h3, h4, h5, h6, h7, h8, h8b, h9, h10, h11⟩ := h
  exact ⟨fun i hi => ⟨va_Z_fresh (h1 i hi).1 hAB, va_O_fresh (h1 i hi).2.1 hAB, va_OF_fresh (h1 i hi).2.2.1 hAB, va_OF_fresh (h1 i hi).2.2.2 hAB⟩, h2, va_Z_fresh h3 hAB, va_T_fresh h4 hAB, va_Z_fresh h5 hAB, va_T_fresh h6 hAB, ⟨fun i hi => ⟨va_O_fresh (h7.1 i hi).1 hAB, va_OF_fresh (h7.1 i hi).2.1 hAB, va_OF_fresh (h7.1 i hi).2.2.1 hAB, va_T_fresh (h7.1 i hi).2.2.2 hAB⟩, h7.2⟩, va_Z_fresh h8 hAB, va_Zq_fresh h8b hAB, h9, h10, LWc_fresh h11 hAB⟩
def tK (E : xE) (A : Nat → Prop) (ss : tSs) (U : State) (H : Heap) : Prop := va_Z "java/lang/String" "COMPACT_STRINGS" "Z" (.int 1) A U H ∧ va_Zq "jdk/internal/util/Preconditions" "SIOOBE_FORMATTER" "Ljava/util/function/BiFunction;" A U H ∧ LWc E.2.1.2.2 A U H ∧ tP E.2.1.2.2 A U H ∧ ∀ q ∈ ss, tF q A U H
theorem tK_kept {E : xE} {A : Nat → Prop} {ss : tSs} {s U : State} {H H1 : Heap} (hW : s.WarmedH U.vm) (hq : ∀ a : Nat, a < H.size → ¬ A a → H1[a]? = H[a]?) (h : tK E A ss s H) : tK E A ss U H1 :=
  ⟨(va_Z.moved hW.alike h.1).kept hq, (va_Zq.moved hW.alike h.2.1).kept hq, LWc_kept hW hq h.2.2.1, ⟨tW_warm hW h.2.2.2.1.1, KW_kept hW hq h.2.2.2.1.2⟩, fun q hq' => tF_kept hW hq (h.2.2.2.2 q hq')⟩
theorem tK_fresh {E : xE} {A B : Nat → Prop} {ss : tSs} {U : State} {H : Heap} (h : tK E A ss U H) (hAB : ∀ q, B q → A q ∨ H.size ≤ q) : tK E B ss U H := ⟨va_Z_fresh h.1 hAB, va_Zq_fresh h.2.1 hAB, LWc_fresh h.2.2.1 hAB, ⟨h.2.2.2.1.1, KW_fresh h.2.2.2.1.2 hAB⟩, fun q hq => tF_fresh (h.2.2.2.2 q hq) hAB⟩
theorem tK_narrow {E : xE} {A B : Nat → Prop} {ss : tSs} {U : State} {H : Heap} (h : tK E A ss U H) (hAB : ∀ q, B q → A q) : tK E B ss U H := tK_fresh h (fun q hq => Or.inl (hAB q hq))
/-- what a walk with temporary cells needs, out of what the class's walks have -/
theorem tK_of {E : xE} {A B : Nat → Prop} {ss : tSs} {U : State} {H : Heap} (hW : tW U) (hK : KW E.2.1.2.2 A U H) (hAB : ∀ q, B q → A q ∨ H.size ≤ q) (hs : ∀ q ∈ ss, tF q B U H) : tK E B ss U H := by
  have h := KW_fresh hK hAB
  exact ⟨h.2.2.2.2.2.2.2.1, h.2.2.2.2.2.2.2.2.1, h.2.2.2.2.2.2.2.2.2.2.2, ⟨hW, h⟩, hs⟩
def tR (X : xX) (A : Nat → Prop) (M : tMp) (H : Heap) (locs : List Loc) : Prop := tH (xXE X) A M H ∧ va_S A (xXs X).heap H locs
def TO (X : xX) (A : Nat → Prop) (Q : State → Prop) (M : tMp) (nk nz pc : Nat) (L : List (Nat × Value)) (st : List Value) : Prop :=
  ∀ (H : Heap) (locs : List Loc), tR X A M H locs → ∀ ls : Array Slot, lv_has ls (xXn X) L →
    W (xXp X) (xXl X) (xXe X) (xXR X) (xXs X) (xXm X) (xXa X) (xXb X) (xXd X) (xXc X) H locs nk nz Q (F0 (xXm X) pc ls st)
def tCx (X : xX) (A : Nat → Prop) (ss : tSs) (cc : ByteArray) (own : String) (ret : Option FieldType) (rm : Room) (nL : Nat) : Prop :=
  (xXp X).tables.exec = Jvm.exec ∧ (xXc X).code = cc ∧ (xXc X).maxLocals = nL ∧ (xXs X).vm.findClass own = some (xXm X).cls ∧ (∀ w ∈ GW, w.before (xXa X) (xXs X) = true) ∧ xK (xXE X) (xXs X) ∧ (xXd X).locks = false ∧ (∀ q, (xXs X).heap.size ≤ q → A q) ∧ (xXd X).sig.returnType = ret ∧ xXR X = rm ∧ xXn X = nL ∧ tK (xXE X) A ss (xXs X) (xXs X).heap
section TROWS
variable {X : xX} {A : Nat → Prop} {ss : tSs} {Q : State → Prop} {M : tMp} {nk nz pc : Nat} {L : List (Nat × Value)} {st : List Value} {cc : ByteArray} {own : String} {ret : Option FieldType} {rm : Room} {nL : Nat}
theorem tw_iadd (C : tCx X A ss cc own ret rm nL) {x y : Int} (d : decode cc pc = .ok (.iadd, 1)) (k : TO X A Q M nk nz (pc + 1) L (iV (x + y) :: st)) : TO X A Q M nk nz pc L (iV y :: iV x :: st) := by
  intro  H locs hR ls hl
  have := k  H locs hR ls hl
  unfold iV at this ⊢
  rw [Int32.ofInt_add] at this
  exact lv_iadd C.1 C.2.1 d this
theorem tw_isub (C : tCx X A ss cc own ret rm nL) {x y : Int} (d : decode cc pc = .ok (.isub, 1)) (k : TO X A Q M nk nz (pc + 1) L (iV (x - y) :: st)) : TO X A Q M nk nz pc L (iV y :: iV x :: st) := by
  intro  H locs hR ls hl
  have := k  H locs hR ls hl
  unfold iV at this ⊢
  rw [Int32.ofInt_sub] at this
  exact lv_isub C.1 C.2.1 d this
theorem tw_imul (C : tCx X A ss cc own ret rm nL) {x y : Int} (d : decode cc pc = .ok (.imul, 1)) (k : TO X A Q M nk nz (pc + 1) L (iV (x * y) :: st)) : TO X A Q M nk nz pc L (iV y :: iV x :: st) := by
  intro  H locs hR ls hl
  have := k  H locs hR ls hl
  unfold iV at this ⊢
  rw [Int32.ofInt_mul] at this
  exact lv_imul C.1 C.2.1 d this
theorem tw_iand (C : tCx X A ss cc own ret rm nL) {x y : Int} (d : decode cc pc = .ok (.iand, 1)) (k : TO X A Q M nk nz (pc + 1) L (iV (zand x y) :: st)) : TO X A Q M nk nz pc L (iV y :: iV x :: st) := by
  intro  H locs hR ls hl
  have := k  H locs hR ls hl
  unfold iV at this ⊢
  rw [zand, Int32.ofInt_toInt] at this
  exact lv_iand C.1 C.2.1 d this
theorem tw_ior (C : tCx X A ss cc own ret rm nL) {x y : Int} (d : decode cc pc = .ok (.ior, 1)) (k : TO X A Q M nk nz (pc + 1) L (iV (zor x y) :: st)) : TO X A Q M nk nz pc L (iV y :: iV x :: st) := by
  intro  H locs hR ls hl
  have := k  H locs hR ls hl
  unfold iV at this ⊢
  rw [zor, Int32.ofInt_toInt] at this
  exact lv_ior C.1 C.2.1 d this
theorem tw_ishl (C : tCx X A ss cc own ret rm nL) {x y : Int} (d : decode cc pc = .ok (.ishl, 1)) (k : TO X A Q M nk nz (pc + 1) L (iV (zshl x y) :: st)) : TO X A Q M nk nz pc L (iV y :: iV x :: st) := by
  intro  H locs hR ls hl
  have := k  H locs hR ls hl
  unfold iV at this ⊢
  rw [zshl, Int32.ofInt_toInt] at this
  exact lv_ishl C.1 C.2.1 d this
theorem tw_ishr (C : tCx X A ss cc own ret rm nL) {x y : Int} (d : decode cc pc = .ok (.ishr, 1)) (k : TO X A Q M nk nz (pc + 1) L (iV (zshr x y) :: st)) : TO X A Q M nk nz pc L (iV y :: iV x :: st) := by
  intro  H locs hR ls hl
  have := k  H locs hR ls hl
  unfold iV at this ⊢
  rw [zshr, Int32.ofInt_toInt] at this
  exact lv_ishr C.1 C.2.1 d this
theorem tw_ineg (C : tCx X A ss cc own ret rm nL) {x : Int} (d : decode cc pc = .ok (.ineg, 1)) (k : TO X A Q M nk nz (pc + 1) L (iV (-x) :: st)) : TO X A Q M nk nz pc L (iV x :: st) := by
  intro  H locs hR ls hl
  have := k  H locs hR ls hl
  unfold iV at this
  rw [Int32.ofInt_neg] at this
  exact lv_ineg C.1 C.2.1 d this
theorem tw_i2b (C : tCx X A ss cc own ret rm nL) {x : Int} (d : decode cc pc = .ok (.i2b, 1)) (k : TO X A Q M nk nz (pc + 1) L (iV (zi2b x) :: st)) : TO X A Q M nk nz pc L (iV x :: st) := by
  intro  H locs hR ls hl
  have := k  H locs hR ls hl
  unfold iV at this
  rw [zi2b, Int32.ofInt_toInt] at this
  exact lv_i2b C.1 C.2.1 d rfl this
theorem tw_i2c (C : tCx X A ss cc own ret rm nL) {x : Int} (d : decode cc pc = .ok (.i2c, 1)) (k : TO X A Q M nk nz (pc + 1) L (iV (zi2c x) :: st)) : TO X A Q M nk nz pc L (iV x :: st) := by
  intro  H locs hR ls hl
  have := k  H locs hR ls hl
  unfold iV at this
  rw [zi2c, Int32.ofInt_toInt] at this
  exact lv_i2c C.1 C.2.1 d rfl this
theorem tw_iconst (C : tCx X A ss cc own ret rm nL) {n : Int} (v : Int) (d : decode cc pc = .ok (.iconst n, 1)) (hv : Int32.ofInt n = Int32.ofInt v) (k : TO X A Q M nk nz (pc + 1) L (iV v :: st)) : TO X A Q M nk nz pc L st :=
  fun  H locs hR ls hl => lv_iconst C.1 C.2.1 d hv (k  H locs hR ls hl)
theorem tw_bipush (C : tCx X A ss cc own ret rm nL) {n : Int} (v : Int) (d : decode cc pc = .ok (.bipush n, 2)) (hv : (Int8.ofInt n).toInt32 = Int32.ofInt v) (k : TO X A Q M nk nz (pc + 2) L (iV v :: st)) : TO X A Q M nk nz pc L st :=
  fun  H locs hR ls hl => lv_bipush C.1 C.2.1 d hv (k  H locs hR ls hl)
theorem tw_sipush (C : tCx X A ss cc own ret rm nL) {n : Int} (v : Int) (d : decode cc pc = .ok (.sipush n, 3)) (hv : (Int16.ofInt n).toInt32 = Int32.ofInt v) (k : TO X A Q M nk nz (pc + 3) L (iV v :: st)) : TO X A Q M nk nz pc L st :=
  fun  H locs hR ls hl => lv_sipush C.1 C.2.1 d hv (k  H locs hR ls hl)
theorem tw_ldc (C : tCx X A ss cc own ret rm nL) {index : Nat} {v : Int32} (z : Int) (hc : Cond.constant own index v ∈ GW) (hz : Int32.ofInt z = v) (d : decode cc pc = .ok (.ldc index, 2)) (k : TO X A Q M nk nz (pc + 2) L (iV z :: st)) : TO X A Q M nk nz pc L st := by
  subst hz
  exact fun  H locs hR ls hl => lv_ldc C.1 C.2.1 C.2.2.2.1 (C.2.2.2.2.1 _ hc) d (k  H locs hR ls hl)
theorem tw_ldcw (C : tCx X A ss cc own ret rm nL) {index : Nat} {v : Int32} (z : Int) (hc : Cond.constant own index v ∈ GW) (hz : Int32.ofInt z = v) (d : decode cc pc = .ok (.ldc_w index, 3)) (k : TO X A Q M nk nz (pc + 3) L (iV z :: st)) : TO X A Q M nk nz pc L st := by
  subst hz
  exact fun  H locs hR ls hl => lv_ldcw C.1 C.2.1 C.2.2.2.1 (C.2.2.2.2.1 _ hc) d (k  H locs hR ls hl)
theorem tw_pop (C : tCx X A ss cc own ret rm nL) {v : Value} (d : decode cc pc = .ok (.pop, 1)) (hv : v.category = 1) (k : TO X A Q M nk nz (pc + 1) L st) : TO X A Q M nk nz pc L (v :: st) :=
  fun  H locs hR ls hl => lv_pop C.1 C.2.1 d hv (k  H locs hR ls hl)
theorem tw_dup (C : tCx X A ss cc own ret rm nL) {v : Value} (d : decode cc pc = .ok (.dup, 1)) (hv : v.category = 1) (k : TO X A Q M nk nz (pc + 1) L (v :: v :: st)) : TO X A Q M nk nz pc L (v :: st) :=
  fun  H locs hR ls hl => lv_dup C.1 C.2.1 d hv (k  H locs hR ls hl)
theorem tw_dup2 (C : tCx X A ss cc own ret rm nL) {v u : Value} (d : decode cc pc = .ok (.dup2, 1)) (hv : v.category = 1) (hu : u.category = 1) (k : TO X A Q M nk nz (pc + 1) L (v :: u :: v :: u :: st)) : TO X A Q M nk nz pc L (v :: u :: st) :=
  fun  H locs hR ls hl => lv_dup2_11 C.1 C.2.1 d hv hu (k  H locs hR ls hl)
theorem tw_goto (C : tCx X A ss cc own ret rm nL) {off : Int} (tgt : Nat) (d : decode cc pc = .ok (.goto off, 3)) (ht : (pc : Int) + off = (tgt : Int)) (k : TO X A Q M nk nz tgt L st) : TO X A Q M nk nz pc L st :=
  fun  H locs hR ls hl => lv_goto C.1 C.2.1 d ht (k  H locs hR ls hl)
theorem tw_pick {L' : List (Nat × Value)} (ks : List Nat) (e : lv_pick L ks = L') (k : TO X A Q M nk nz pc L' st) : TO X A Q M nk nz pc L st :=
  fun  H locs hR ls hl => k  H locs hR ls (lv_sub hl ks e)
theorem tw_iload_n (C : tCx X A ss cc own ret rm nL) {n : Fin 4} {i : Nat} {x : Int} (q : Nat) (d : decode cc pc = .ok (.iload_n n, 1)) (hi : (n : Nat) = i) (hq : L[q]? = some (i, iV x)) (k : TO X A Q M nk nz (pc + 1) L (iV x :: st)) : TO X A Q M nk nz pc L st :=
  fun  H locs hR ls hl => lv_iload_n C.1 C.2.1 d hi (lv_at hl q hq) (k  H locs hR ls hl)
theorem tw_iload (C : tCx X A ss cc own ret rm nL) {i : Nat} {x : Int} (q : Nat) (d : decode cc pc = .ok (.iload i, 2)) (hq : L[q]? = some (i, iV x)) (k : TO X A Q M nk nz (pc + 2) L (iV x :: st)) : TO X A Q M nk nz pc L st :=
  fun  H locs hR ls hl => lv_iload C.1 C.2.1 d (lv_at hl q hq) (k  H locs hR ls hl)
theorem tw_aload_n (C : tCx X A ss cc own ret rm nL) {n : Fin 4} {i : Nat} {x : Nat} (q : Nat) (d : decode cc pc = .ok (.aload_n n, 1)) (hi : (n : Nat) = i) (hq : L[q]? = some (i, .ref x)) (k : TO X A Q M nk nz (pc + 1) L (.ref x :: st)) : TO X A Q M nk nz pc L st :=
  fun  H locs hR ls hl => lv_aload_n C.1 C.2.1 d hi (lv_at hl q hq) (k  H locs hR ls hl)
theorem tw_aload (C : tCx X A ss cc own ret rm nL) {i : Nat} {x : Nat} (q : Nat) (d : decode cc pc = .ok (.aload i, 2)) (hq : L[q]? = some (i, .ref x)) (k : TO X A Q M nk nz (pc + 2) L (.ref x :: st)) : TO X A Q M nk nz pc L st :=
  fun  H locs hR ls hl => lv_aload C.1 C.2.1 d (lv_at hl q hq) (k  H locs hR ls hl)
theorem tw_istore_n (C : tCx X A ss cc own ret rm nL) {n : Fin 4} {i : Nat} {x : Int} {L' : List (Nat × Value)} (d : decode cc pc = .ok (.istore_n n, 1)) (hi : (n : Nat) = i) (hn : i < nL) (hl' : (i, iV x) :: L.filter (fun q : Nat × Value => !(q.1 == i) && !(q.1 + 1 == i && q.2.category == 2)) = L') (k : TO X A Q M nk nz (pc + 1) L' st) : TO X A Q M nk nz pc L (iV x :: st) :=
  fun  H locs hR ls hl => lv_istore_n C.1 C.2.1 d hi hl (by rw [C.2.2.2.2.2.2.2.2.2.2.1]; exact hn) hl' (fun ls' hls' => k  H locs hR ls' hls')
theorem tw_istore (C : tCx X A ss cc own ret rm nL) {i : Nat} {x : Int} {L' : List (Nat × Value)} (d : decode cc pc = .ok (.istore i, 2)) (hn : i < nL) (hl' : (i, iV x) :: L.filter (fun q : Nat × Value => !(q.1 == i) && !(q.1 + 1 == i && q.2.category == 2)) = L') (k : TO X A Q M nk nz (pc + 2) L' st) : TO X A Q M nk nz pc L (iV x :: st) :=
  fun  H locs hR ls hl => lv_istore C.1 C.2.1 d hl (by rw [C.2.2.2.2.2.2.2.2.2.2.1]; exact hn) hl' (fun ls' hls' => k  H locs hR ls' hls')
theorem tw_astore_n (C : tCx X A ss cc own ret rm nL) {n : Fin 4} {i : Nat} {x : Nat} {L' : List (Nat × Value)} (d : decode cc pc = .ok (.astore_n n, 1)) (hi : (n : Nat) = i) (hn : i < nL) (hl' : (i, Value.ref x) :: L.filter (fun q : Nat × Value => !(q.1 == i) && !(q.1 + 1 == i && q.2.category == 2)) = L') (k : TO X A Q M nk nz (pc + 1) L' st) : TO X A Q M nk nz pc L (Value.ref x :: st) :=
  fun  H locs hR ls hl => lv_astore_n C.1 C.2.1 d hi hl (by rw [C.2.2.2.2.2.2.2.2.2.2.1]; exact hn) hl' (fun ls' hls' => k  H locs hR ls' hls')
theorem tw_astore (C : tCx X A ss cc own ret rm nL) {i : Nat} {x : Nat} {L' : List (Nat × Value)} (d : decode cc pc = .ok (.astore i, 2)) (hn : i < nL) (hl' : (i, Value.ref x) :: L.filter (fun q : Nat × Value => !(q.1 == i) && !(q.1 + 1 == i && q.2.category == 2)) = L') (k : TO X A Q M nk nz (pc + 2) L' st) : TO X A Q M nk nz pc L (Value.ref x :: st) :=
  fun  H locs hR ls hl => lv_astore C.1 C.2.1 d hl (by rw [C.2.2.2.2.2.2.2.2.2.2.1]; exact hn) hl' (fun ls' hls' => k  H locs hR ls' hls')
theorem tw_iinc (C : tCx X A ss cc own ret rm nL) {i : Nat} {n : Int} {x : Int} {L' : List (Nat × Value)} (q : Nat) (v : Int) (d : decode cc pc = .ok (.iinc i n, 3)) (hq : L[q]? = some (i, iV x)) (hv : v = x + n) (hn : i < nL) (hl' : (i, iV v) :: L.filter (fun q : Nat × Value => !(q.1 == i) && !(q.1 + 1 == i && q.2.category == 2)) = L') (k : TO X A Q M nk nz (pc + 3) L' st) : TO X A Q M nk nz pc L st :=
  fun  H locs hR ls hl => lv_iinc C.1 C.2.1 d hl hq (by rw [hv, Int32.ofInt_add]) (by rw [C.2.2.2.2.2.2.2.2.2.2.1]; exact hn) hl' (fun ls' hls' => k  H locs hR ls' hls')
theorem tw_icmp_eq (C : tCx X A ss cc own ret rm nL) {x y x' y' : Int} {off : Int} (tgt : Nat) (hx : zI x = x') (hy : zI y = y') (d : decode cc pc = .ok (.if_icmp .eq off, 3)) (ht : (pc : Int) + off = (tgt : Int)) (kt : x' = y' → TO X A Q M nk nz tgt L st) (kf : ¬ x' = y' → TO X A Q M nk nz (pc + 3) L st) : TO X A Q M nk nz pc L (iV y :: iV x :: st) := by
  subst hx
  subst hy
  exact fun  H locs hR ls hl => lv_icmp_eq C.1 C.2.1 d ht (fun hc => kt ((i_eq).mp hc)  H locs hR ls hl) (fun hc => kf (fun e => hc ((i_eq).mpr e))  H locs hR ls hl)
theorem tw_if_eq (C : tCx X A ss cc own ret rm nL) {x x' : Int} {off : Int} (tgt : Nat) (hx : zI x = x') (d : decode cc pc = .ok (.ifCond .eq off, 3)) (ht : (pc : Int) + off = (tgt : Int)) (kt : x' = 0 → TO X A Q M nk nz tgt L st) (kf : ¬ x' = 0 → TO X A Q M nk nz (pc + 3) L st) : TO X A Q M nk nz pc L (iV x :: st) := by
  subst hx
  exact fun  H locs hR ls hl => lv_if_eq C.1 C.2.1 d ht (fun hc => kt ((i_eq0).mp hc)  H locs hR ls hl) (fun hc => kf (fun e => hc ((i_eq0).mpr e))  H locs hR ls hl)
theorem tw_icmp_ne (C : tCx X A ss cc own ret rm nL) {x y x' y' : Int} {off : Int} (tgt : Nat) (hx : zI x = x') (hy : zI y = y') (d : decode cc pc = .ok (.if_icmp .ne off, 3)) (ht : (pc : Int) + off = (tgt : Int)) (kt : ¬ x' = y' → TO X A Q M nk nz tgt L st) (kf : x' = y' → TO X A Q M nk nz (pc + 3) L st) : TO X A Q M nk nz pc L (iV y :: iV x :: st) := by
  subst hx
  subst hy
  exact fun  H locs hR ls hl => lv_icmp_ne C.1 C.2.1 d ht (fun hc => kt (fun e => hc ((i_eq).mpr e))  H locs hR ls hl) (fun hc => kf ((i_eq).mp hc)  H locs hR ls hl)
theorem tw_if_ne (C : tCx X A ss cc own ret rm nL) {x x' : Int} {off : Int} (tgt : Nat) (hx : zI x = x') (d : decode cc pc = .ok (.ifCond .ne off, 3)) (ht : (pc : Int) + off = (tgt : Int)) (kt : ¬ x' = 0 → TO X A Q M nk nz tgt L st) (kf : x' = 0 → TO X A Q M nk nz (pc + 3) L st) : TO X A Q M nk nz pc L (iV x :: st) := by
  subst hx
  exact fun  H locs hR ls hl => lv_if_ne C.1 C.2.1 d ht (fun hc => kt (fun e => hc ((i_eq0).mpr e))  H locs hR ls hl) (fun hc => kf ((i_eq0).mp hc)  H locs hR ls hl)
theorem tw_icmp_lt (C : tCx X A ss cc own ret rm nL) {x y x' y' : Int} {off : Int} (tgt : Nat) (hx : zI x = x') (hy : zI y = y') (d : decode cc pc = .ok (.if_icmp .lt off, 3)) (ht : (pc : Int) + off = (tgt : Int)) (kt : x' < y' → TO X A Q M nk nz tgt L st) (kf : ¬ x' < y' → TO X A Q M nk nz (pc + 3) L st) : TO X A Q M nk nz pc L (iV y :: iV x :: st) := by
  subst hx
  subst hy
  exact fun  H locs hR ls hl => lv_icmp_lt C.1 C.2.1 d ht (fun hc => kt ((i_lt).mp hc)  H locs hR ls hl) (fun hc => kf (fun e => hc ((i_lt).mpr e))  H locs hR ls hl)
theorem tw_if_lt (C : tCx X A ss cc own ret rm nL) {x x' : Int} {off : Int} (tgt : Nat) (hx : zI x = x') (d : decode cc pc = .ok (.ifCond .lt off, 3)) (ht : (pc : Int) + off = (tgt : Int)) (kt : x' < 0 → TO X A Q M nk nz tgt L st) (kf : ¬ x' < 0 → TO X A Q M nk nz (pc + 3) L st) : TO X A Q M nk nz pc L (iV x :: st) := by
  subst hx
  exact fun  H locs hR ls hl => lv_if_lt C.1 C.2.1 d ht (fun hc => kt ((i_lt0).mp hc)  H locs hR ls hl) (fun hc => kf (fun e => hc ((i_lt0).mpr e))  H locs hR ls hl)
theorem tw_icmp_ge (C : tCx X A ss cc own ret rm nL) {x y x' y' : Int} {off : Int} (tgt : Nat) (hx : zI x = x') (hy : zI y = y') (d : decode cc pc = .ok (.if_icmp .ge off, 3)) (ht : (pc : Int) + off = (tgt : Int)) (kt : y' ≤ x' → TO X A Q M nk nz tgt L st) (kf : ¬ y' ≤ x' → TO X A Q M nk nz (pc + 3) L st) : TO X A Q M nk nz pc L (iV y :: iV x :: st) := by
  subst hx
  subst hy
  exact fun  H locs hR ls hl => lv_icmp_ge C.1 C.2.1 d ht (fun hc => kt ((i_le).mp hc)  H locs hR ls hl) (fun hc => kf (fun e => hc ((i_le).mpr e))  H locs hR ls hl)
theorem tw_if_ge (C : tCx X A ss cc own ret rm nL) {x x' : Int} {off : Int} (tgt : Nat) (hx : zI x = x') (d : decode cc pc = .ok (.ifCond .ge off, 3)) (ht : (pc : Int) + off = (tgt : Int)) (kt : 0 ≤ x' → TO X A Q M nk nz tgt L st) (kf : ¬ 0 ≤ x' → TO X A Q M nk nz (pc + 3) L st) : TO X A Q M nk nz pc L (iV x :: st) := by
  subst hx
  exact fun  H locs hR ls hl => lv_if_ge C.1 C.2.1 d ht (fun hc => kt ((i_ge0).mp hc)  H locs hR ls hl) (fun hc => kf (fun e => hc ((i_ge0).mpr e))  H locs hR ls hl)
theorem tw_icmp_gt (C : tCx X A ss cc own ret rm nL) {x y x' y' : Int} {off : Int} (tgt : Nat) (hx : zI x = x') (hy : zI y = y') (d : decode cc pc = .ok (.if_icmp .gt off, 3)) (ht : (pc : Int) + off = (tgt : Int)) (kt : y' < x' → TO X A Q M nk nz tgt L st) (kf : ¬ y' < x' → TO X A Q M nk nz (pc + 3) L st) : TO X A Q M nk nz pc L (iV y :: iV x :: st) := by
  subst hx
  subst hy
  exact fun  H locs hR ls hl => lv_icmp_gt C.1 C.2.1 d ht (fun hc => kt ((i_lt).mp hc)  H locs hR ls hl) (fun hc => kf (fun e => hc ((i_lt).mpr e))  H locs hR ls hl)
theorem tw_if_gt (C : tCx X A ss cc own ret rm nL) {x x' : Int} {off : Int} (tgt : Nat) (hx : zI x = x') (d : decode cc pc = .ok (.ifCond .gt off, 3)) (ht : (pc : Int) + off = (tgt : Int)) (kt : 0 < x' → TO X A Q M nk nz tgt L st) (kf : ¬ 0 < x' → TO X A Q M nk nz (pc + 3) L st) : TO X A Q M nk nz pc L (iV x :: st) := by
  subst hx
  exact fun  H locs hR ls hl => lv_if_gt C.1 C.2.1 d ht (fun hc => kt ((i_gt0).mp hc)  H locs hR ls hl) (fun hc => kf (fun e => hc ((i_gt0).mpr e))  H locs hR ls hl)
theorem tw_icmp_le (C : tCx X A ss cc own ret rm nL) {x y x' y' : Int} {off : Int} (tgt : Nat) (hx : zI x = x') (hy : zI y = y') (d : decode cc pc = .ok (.if_icmp .le off, 3)) (ht : (pc : Int) + off = (tgt : Int)) (kt : x' ≤ y' → TO X A Q M nk nz tgt L st) (kf : ¬ x' ≤ y' → TO X A Q M nk nz (pc + 3) L st) : TO X A Q M nk nz pc L (iV y :: iV x :: st) := by
  subst hx
  subst hy
  exact fun  H locs hR ls hl => lv_icmp_le C.1 C.2.1 d ht (fun hc => kt ((i_le).mp hc)  H locs hR ls hl) (fun hc => kf (fun e => hc ((i_le).mpr e))  H locs hR ls hl)
theorem tw_if_le (C : tCx X A ss cc own ret rm nL) {x x' : Int} {off : Int} (tgt : Nat) (hx : zI x = x') (d : decode cc pc = .ok (.ifCond .le off, 3)) (ht : (pc : Int) + off = (tgt : Int)) (kt : x' ≤ 0 → TO X A Q M nk nz tgt L st) (kf : ¬ x' ≤ 0 → TO X A Q M nk nz (pc + 3) L st) : TO X A Q M nk nz pc L (iV x :: st) := by
  subst hx
  exact fun  H locs hR ls hl => lv_if_le C.1 C.2.1 d ht (fun hc => kt ((i_le0).mp hc)  H locs hR ls hl) (fun hc => kf (fun e => hc ((i_le0).mpr e))  H locs hR ls hl)
theorem tw_null (C : tCx X A ss cc own ret rm nL) (d : decode cc pc = .ok (.aconst_null, 1)) (k : TO X A Q M nk nz (pc + 1) L (.null :: st)) : TO X A Q M nk nz pc L st :=
  fun  H locs hR ls hls => lv_null C.1 C.2.1 d (k  H locs hR ls hls)
theorem tw_ifnullR (C : tCx X A ss cc own ret rm nL) {a : Nat} {off : Int} (d : decode cc pc = .ok (.ifnull off, 3)) (k : TO X A Q M nk nz (pc + 3) L st) : TO X A Q M nk nz pc L (.ref a :: st) := fun  H locs hR ls hls => lv_ifnull C.1 C.2.1 d (k  H locs hR ls hls)
theorem tw_ifnonnullR (C : tCx X A ss cc own ret rm nL) (tgt : Nat) {a : Nat} {off : Int} (d : decode cc pc = .ok (.ifnonnull off, 3)) (ht : (pc : Int) + off = (tgt : Int)) (k : TO X A Q M nk nz tgt L st) : TO X A Q M nk nz pc L (.ref a :: st) := fun  H locs hR ls hls => lv_ifnonnull C.1 C.2.1 d ht (k  H locs hR ls hls)
theorem tw_aload_nN (C : tCx X A ss cc own ret rm nL) {n : Fin 4} {i : Nat} (q : Nat) (d : decode cc pc = .ok (.aload_n n, 1)) (hi : (n : Nat) = i) (hq : L[q]? = some (i, .null)) (k : TO X A Q M nk nz (pc + 1) L (.null :: st)) : TO X A Q M nk nz pc L st :=
  fun  H locs hR ls hl => lv_aload_nN C.1 C.2.1 d hi (lv_at hl q hq) (k  H locs hR ls hl)
theorem tw_get (C : tCx X A ss cc own ret rm nL) {a ci N index : Nat} {fs : List Value} (j : Nat) {Cn ref : String} {T : u_T} {ty : Nat → FieldType} {v : Value} (K : xCls ci Cn T N ty) (hM : M a = some (.inr (ci, fs))) (hj : j < N) (hlink : Cond.fieldLink own index ref (T j).2.1 (T j).2.2.1 ∈ GW) (href : (T j).1 = ref) (hv : fs[j]? = some v) (d : decode cc pc = .ok (.getfield index, 3)) (kk : TO X A Q M nk nz (pc + 3) L (v :: st)) : TO X A Q M nk nz pc L (.ref a :: st) := by
  intro H locs hR ls hl
  obtain ⟨⟨ws, hP, hD, hm⟩, hS⟩ := hR
  obtain ⟨k0, hk0⟩ := hm _ _ hM
  exact va_get C.1 C.2.1 C.2.2.2.2.1 K.2.1 C.2.2.2.1 C.2.2.2.2.2.1 hP k0 hk0 K.1 j hj (C.2.2.2.2.1 _ hlink) (fun _ h9 => by rw [← href]; exact h9) hv d (kk H locs ⟨⟨ws, hP, hD, hm⟩, hS⟩ ls hl)
theorem tw_put (C : tCx X A ss cc own ret rm nL) {a ci N index : Nat} {fs : List Value} (j : Nat) {Cn ref : String} {T : u_T} {ty : Nat → FieldType} {v : Value} (K : xCls ci Cn T N ty) (hM : M a = some (.inr (ci, fs))) (hj : j < N) (hlink : Cond.fieldLink own index ref (T j).2.1 (T j).2.2.1 ∈ GW) (href : (T j).1 = ref) (hfin : (T j).2.2.2 = false) (hn : narrow (ty j) v = v) (hfit : fits (ty j) v = true) (hl : j < fs.length) (d : decode cc pc = .ok (.putfield index, 3)) (kk : TO X A Q (tU M a (.inr (ci, fs.set j v))) nk nz (pc + 3) L st) : TO X A Q M nk nz pc L (v :: .ref a :: st) := by
  intro H locs hR ls hls
  obtain ⟨⟨ws, hP, hD, hm⟩, hS⟩ := hR
  obtain ⟨k0, hk0⟩ := hm _ _ hM
  exact va_put C.1 C.2.1 C.2.2.2.2.1 K.2.1 ty K.2.2.1 K.2.2.2.1 C.2.2.2.1 C.2.2.2.2.2.1 hP hD hS k0 hk0 K.1 j hj (C.2.2.2.2.1 _ hlink) (fun _ h9 => by rw [← href]; exact h9) hfin (K.2.2.1 j hj) hn hfit hl d (fun H1 locs1 hP1 hD1 hS1 => kk H1 locs1 ⟨tH_put hk0 hm hP1 hD1, hS1⟩ ls hls)
theorem tw_putF (C : tCx X A ss cc own ret rm nL) {a ci N index : Nat} {fs : List Value} (j : Nat) {Cn ref : String} {T : u_T} {ty : Nat → FieldType} {v : Value} (K : xCls ci Cn T N ty) (hM : M a = some (.inr (ci, fs))) (hj : j < N) (hlink : Cond.fieldLink own index ref (T j).2.1 (T j).2.2.1 ∈ GW) (href : (T j).1 = ref) (hfin : (T j).2.2.2 = true) (hin2 : (xXd X).name = "<init>") (hdecl : (T j).1 = own) (hn : narrow (ty j) v = v) (hfit : fits (ty j) v = true) (hl : j < fs.length) (d : decode cc pc = .ok (.putfield index, 3)) (kk : TO X A Q (tU M a (.inr (ci, fs.set j v))) nk nz (pc + 3) L st) : TO X A Q M nk nz pc L (v :: .ref a :: st) := by
  intro H locs hR ls hls
  obtain ⟨⟨ws, hP, hD, hm⟩, hS⟩ := hR
  obtain ⟨k0, hk0⟩ := hm _ _ hM
  exact va_putF C.1 C.2.1 C.2.2.2.2.1 K.2.1 ty K.2.2.1 K.2.2.2.1 C.2.2.2.1 C.2.2.2.2.2.1 hP hD hS k0 hk0 K.1 j hj (C.2.2.2.2.1 _ hlink) (fun _ h9 => by rw [← href]; exact h9) hfin hin2 hdecl (K.2.2.1 j hj) hn hfit hl d (fun H1 locs1 hP1 hD1 hS1 => kk H1 locs1 ⟨tH_put hk0 hm hP1 hD1, hS1⟩ ls hls)
/-- a field of an object that no walk writes -/
theorem tw_gets (C : tCx X A ss cc own ret rm nL) {o n d ref : String} {index q : Nat} {v : Value} (hE : va_OF o n d v q A (xXs X) (xXs X).heap) (hlink : Cond.fieldLink own index ref n d ∈ GW) (href : o = ref) (dd : decode cc pc = .ok (.getfield index, 3)) (kk : TO X A Q M nk nz (pc + 3) L (v :: st)) : TO X A Q M nk nz pc L (.ref q :: st) := by
  intro H locs hR ls hl
  exact vk_getf C.1 C.2.1 hE hR.2 C.2.2.2.1 (C.2.2.2.2.1 _ hlink) (fun _ h9 => by rw [← href]; exact h9) dd (kk H locs hR ls hl)
theorem tw_gstat (C : tCx X A ss cc own ret rm nL) {o n d ref : String} {index : Nat} {v : Value} (hZ : va_Z o n d v A (xXs X) (xXs X).heap) (hlink : Cond.fieldLink own index ref n d ∈ GW) (href : o = ref) (dd : decode cc pc = .ok (.getstatic index, 3)) (kk : TO X A Q M nk nz (pc + 3) L (v :: st)) : TO X A Q M nk nz pc L st := by
  intro H locs hR ls hl
  exact va_gets C.1 C.2.1 hZ hR.2 C.2.2.2.1 (C.2.2.2.2.1 _ hlink) (fun _ h9 => by rw [← href]; exact h9) dd (kk H locs hR ls hl)
theorem tw_lenT (C : tCx X A ss cc own ret rm nL) {ty : FieldType} {t N : Nat} {f : Nat → Value} (hT : va_T ty t N f A (xXs X) (xXs X).heap) (v : Int) (hv : Int32.ofNat N = Int32.ofInt v) (d : decode cc pc = .ok (.arraylength, 1)) (kk : TO X A Q M nk nz (pc + 1) L (iV v :: st)) : TO X A Q M nk nz pc L (.ref t :: st) := by
  intro H locs hR ls hl
  exact va_tlen C.1 C.2.1 hT hR.2 hv d (kk H locs hR ls hl)
theorem tw_bldT (C : tCx X A ss cc own ret rm nL) {t N : Nat} {f : Nat → Int32} (hT : va_T .byte t N (fun j => .int (f j)) A (xXs X) (xXs X).heap) {i i' : Int} (hi : zI i = i') (hlo : 0 ≤ i') (hhi : i' < N) (d : decode cc pc = .ok (.baload, 1)) (kk : TO X A Q M nk nz (pc + 1) L (iV (f i'.toNat).toInt :: st)) : TO X A Q M nk nz pc L (iV i :: .ref t :: st) := by
  subst hi
  intro H locs hR ls hl
  refine va_tb C.1 C.2.1 hT hR.2 (xin ⟨hlo, hhi⟩) (v := iV (f (zI i).toNat).toInt) ?_ d (kk H locs hR ls hl)
  show Value.int (f (zI i).toNat) = .int (Int32.ofInt (f (zI i).toNat).toInt)
  rw [Int32.ofInt_toInt]
theorem tw_len (C : tCx X A ss cc own ret rm nL) {a n : Nat} {x : (Nat → Int32) ⊕ (Nat → Int64) ⊕ (Nat → UInt32) ⊕ (Nat → UInt64) ⊕ (Nat → Option Nat)} (hM : M a = some (.inl ((xXE X).2.1.1 2, n, x))) (v : Int) (hv : Int32.ofNat n = Int32.ofInt v) (d : decode cc pc = .ok (.arraylength, 1)) (kk : TO X A Q M nk nz (pc + 1) L (iV v :: st)) : TO X A Q M nk nz pc L (.ref a :: st) := by
  intro H locs hR ls hl
  obtain ⟨⟨ws, hP, hD, hm⟩, hS⟩ := hR
  obtain ⟨k0, hk0⟩ := hm _ _ hM
  exact va_alen C.1 C.2.1 C.2.2.2.2.2.1 hP k0 2 hk0 rfl hv d (kk H locs ⟨⟨ws, hP, hD, hm⟩, hS⟩ ls hl)
theorem tw_bst (C : tCx X A ss cc own ret rm nL) {a n : Nat} {f : Nat → Int32} (hM : M a = some (.inl ((xXE X).2.1.1 2, n, .inl f))) {i i' x : Int} (hi : zI i = i') (hlo : 0 ≤ i') (hhi : i' < n) (d : decode cc pc = .ok (.bastore, 1)) (kk : TO X A Q (tU M a (.inl ((xXE X).2.1.1 2, n, .inl (upd f i'.toNat (vp_nar .byte (Int32.ofInt x)))))) nk nz (pc + 1) L st) : TO X A Q M nk nz pc L (iV x :: iV i :: .ref a :: st) := by
  subst hi
  intro H locs hR ls hls
  obtain ⟨⟨ws, hP, hD, hm⟩, hS⟩ := hR
  obtain ⟨k0, hk0⟩ := hm _ _ hM
  exact va_bast C.1 C.2.1 C.2.2.2.2.2.1 hP hD hS k0 2 hk0 rfl (xin ⟨hlo, hhi⟩) d (fun H1 locs1 hP1 hD1 hS1 => kk H1 locs1 ⟨tH_put hk0 hm hP1 hD1, hS1⟩ ls hls)
theorem tw_newB (C : tCx X A ss cc own ret rm nL) {n : Nat} {v : Int} (hw : Cond.arrayClass (newarray.typeOf .byte) ∈ GW) (hv : Int32.ofInt v = Int32.ofNat n) (hn : n < 100000) (d : decode cc pc = .ok (.newarray .byte, 2)) (h1 : nk + 1 ≤ rm.cells) (h2 : nz + n ≤ rm.slots)
    (kk : ∀ q, (∀ b f, M b = some f → b ≠ q) → TO X A Q (tU M q (.inl ((xXE X).2.1.1 2, n, .inl (fun _ => 0)))) (nk + 1) (nz + n) (pc + 2) L (.ref q :: st)) : TO X A Q M nk nz pc L (iV v :: st) := by
  intro H locs hR ls hls
  obtain ⟨⟨ws, hP, hD, hm⟩, hS⟩ := hR
  have hR' : xXR X = rm := C.2.2.2.2.2.2.2.2.2.1
  have e1 : Int32.ofInt v = Int32.ofInt (n : Int) := hv.trans (ofN n)
  have e2 : (Int32.ofInt v).toInt = n := by rw [e1]; exact zI_eq (by omega) (by omega)
  refine va_newa C.1 C.2.1 (C.2.2.2.2.1 _ hw) rfl C.2.2.2.2.2.1 hP hD hS C.2.2.2.2.2.2.2.1 (N' := n) (a0 := (n, .inl (fun _ => 0))) (fun cA => rfl) (fun h => by rw [Int32.lt_iff_toInt_lt, e2] at h; simp at h; omega) (by show (Int32.ofInt v).toInt.toNat = n; rw [e2]; rfl) (by show n * 1 ≤ _; omega) (by rw [hR']; exact h1) (by rw [hR']; exact h2) d (fun q cA H1 hK1 hP1 hD1 hS1 => ?_)
  have hc : cA = (xXE X).2.1.1 2 := by
    have g1 := (hK1.2 (xtys (xXE X).2.1.1).length (cA, .byte) (by rw [List.getElem?_append_right (Nat.le_refl _), Nat.sub_self]; rfl)).2
    have g2 := (C.2.2.2.2.2.1.2 2 _ rfl).2
    exact Option.some.inj (g1.symm.trans g2)
  subst hc
  obtain ⟨g1, g2⟩ := tH_new hm hP1 hD1
  exact kk q g2 H1 locs ⟨g1, hS1⟩ ls hls
theorem tw_new (C : tCx X A ss cc own ret rm nL) {ci N index : Nat} {Cn : String} {T : u_T} {ty : Nat → FieldType} (K : xCls ci Cn T N ty) {fs : List Value} (hfs : ∀ j, j < N → defaultValue (ty j) = vp_V fs j) (hcl : Cond.classLink own index Cn ∈ GW) (hin : Cond.instantiable Cn N ∈ GW) (hini : Cond.initialized Cn ∈ GW) (d : decode cc pc = .ok (.new index, 3)) (h1 : nk + 1 ≤ rm.cells) (h2 : nz + N ≤ rm.slots)
    (kk : ∀ q, (∀ b f, M b = some f → b ≠ q) → TO X A Q (tU M q (.inr (ci, fs))) (nk + 1) (nz + N) (pc + 3) L (.ref q :: st)) : TO X A Q M nk nz pc L st := by
  intro H locs hR ls hls
  obtain ⟨⟨ws, hP, hD, hm⟩, hS⟩ := hR
  have hR' : xXR X = rm := C.2.2.2.2.2.2.2.2.2.1
  refine va_new C.1 C.2.1 C.2.2.2.2.1 K.2.1 ty K.2.2.1 C.2.2.2.1 (C.2.2.2.2.1 _ hcl) (C.2.2.2.2.1 _ hin) (C.2.2.2.2.1 _ hini) C.2.2.2.2.2.1 hP hD hS C.2.2.2.2.2.2.2.1 K.1 hfs (by rw [hR']; exact h1) (by rw [hR']; exact h2) d (fun q H1 hP1 hD1 hS1 => ?_)
  obtain ⟨g1, g2⟩ := tH_new hm hP1 hD1
  exact kk q g2 H1 locs ⟨g1, hS1⟩ ls hls
/-- arraycopy of bytes: out of a row that no walk writes -/
theorem tw_copyT (C : tCx X A ss cc own ret rm nL) {index b0 n0 a n1 : Nat} {f g : Nat → Int32} (hX : va_T .byte b0 n0 (fun j => .int (f j)) A (xXs X) (xXs X).heap) (hM : M a = some (.inl ((xXE X).2.1.1 2, n1, .inl g))) {sp dp n : Int} {sp' dp' n' : Nat} (hsp : zI sp = sp') (hdp : zI dp = dp') (hn : zI n = n') (h4 : sp' + n' ≤ n0) (h5 : dp' + n' ≤ n1) (hfit : ∀ i : Nat, i < n' → fits .byte (.int (f (sp' + i))) = true) (hlink : Cond.methodLink own index arraycopyName ∈ GW) (hnat : Cond.native arraycopyName ∈ GW) (hstat : Cond.static arraycopyName ∈ GW) (hini : Cond.initialized "java/lang/System" ∈ GW)
    (hframes : 1 ≤ rm.frames) (hlocals : (st.map fun v => v.category).sum + (nativeFrameWords "java/lang/System" "arraycopy" 5 + 11) ≤ rm.locals) (d : decode cc pc = .ok (.invokestatic index, 3)) (kk : TO X A Q (tU M a (.inl ((xXE X).2.1.1 2, n1, .inl (va_cpy f g sp' dp' n')))) nk nz (pc + 3) L st) : TO X A Q M nk nz pc L (iV n :: iV dp :: .ref a :: iV sp :: .ref b0 :: st) := by
  intro H locs hR ls hls
  obtain ⟨⟨ws, hP, hD, hm⟩, hS⟩ := hR
  obtain ⟨k0, hk0⟩ := hm _ _ hM
  have hR' : xXR X = rm := C.2.2.2.2.2.2.2.2.2.1
  have nn : ∀ {z : Int} {z' : Nat}, zI z = z' → ¬ Int32.ofInt z < 0 ∧ (Int32.ofInt z).toNatClampNeg = z' := fun {z z'} h => ⟨fun q => by rw [i_lt0] at q; omega, by show (zI z).toNat = z'; rw [h]; rfl⟩
  have q1 := nn hsp
  have q2 := nn hdp
  have q3 := nn hn
  refine vk_copyt C.1 C.2.1 (C.2.2.1.trans (hls.1.trans C.2.2.2.2.2.2.2.2.2.2.1).symm) C.2.2.2.1 (C.2.2.2.2.1 _ hlink) (C.2.2.2.2.1 _ hnat) (C.2.2.2.2.1 _ hstat) (C.2.2.2.2.1 _ hini) C.2.2.2.2.2.1 hP hD hS hX k0 2 hk0 rfl q1.1 q2.1 q3.1 (by rw [q1.2, q3.2]; exact h4) (by rw [q2.2, q3.2]; exact h5) (fun i hi => by rw [q1.2]; exact hfit i (by rw [q3.2] at hi; exact hi)) (by rw [hR']; exact hframes) (by rw [hR']; exact hlocals) d (fun H1 locs1 hP1 hD1 hS1 => ?_)
  rw [q1.2, q2.2, q3.2] at hP1 hD1
  exact kk H1 locs1 ⟨tH_put hk0 hm hP1 hD1, hS1⟩ ls hls
theorem tw_copyM (C : tCx X A ss cc own ret rm nL) {index b0 n0 a n1 : Nat} {f g : Nat → Int32} (hX : M b0 = some (.inl ((xXE X).2.1.1 2, n0, .inl f))) (hM : M a = some (.inl ((xXE X).2.1.1 2, n1, .inl g))) {sp dp n : Int} {sp' dp' n' : Nat} (hsp : zI sp = sp') (hdp : zI dp = dp') (hn : zI n = n') (h4 : sp' + n' ≤ n0) (h5 : dp' + n' ≤ n1) (hfit : ∀ i : Nat, i < n' → fits .byte (.int (f (sp' + i))) = true) (hlink : Cond.methodLink own index arraycopyName ∈ GW) (hnat : Cond.native arraycopyName ∈ GW) (hstat : Cond.static arraycopyName ∈ GW) (hini : Cond.initialized "java/lang/System" ∈ GW)
    (hframes : 1 ≤ rm.frames) (hlocals : (st.map fun v => v.category).sum + (nativeFrameWords "java/lang/System" "arraycopy" 5 + 11) ≤ rm.locals) (d : decode cc pc = .ok (.invokestatic index, 3)) (kk : TO X A Q (tU M a (.inl ((xXE X).2.1.1 2, n1, .inl (va_cpy f g sp' dp' n')))) nk nz (pc + 3) L st) : TO X A Q M nk nz pc L (iV n :: iV dp :: .ref a :: iV sp :: .ref b0 :: st) := by
  intro H locs hR ls hls
  obtain ⟨⟨ws, hP, hD, hm⟩, hS⟩ := hR
  obtain ⟨k0, hk0⟩ := hm _ _ hM
  obtain ⟨k1, hk1⟩ := hm _ _ hX
  have hR' : xXR X = rm := C.2.2.2.2.2.2.2.2.2.1
  have nn : ∀ {z : Int} {z' : Nat}, zI z = z' → ¬ Int32.ofInt z < 0 ∧ (Int32.ofInt z).toNatClampNeg = z' := fun {z z'} h => ⟨fun q => by rw [i_lt0] at q; omega, by show (zI z).toNat = z'; rw [h]; rfl⟩
  have q1 := nn hsp
  have q2 := nn hdp
  have q3 := nn hn
  refine va_copyi C.1 C.2.1 (C.2.2.1.trans (hls.1.trans C.2.2.2.2.2.2.2.2.2.2.1).symm) C.2.2.2.1 (C.2.2.2.2.1 _ hlink) (C.2.2.2.2.1 _ hnat) (C.2.2.2.2.1 _ hstat) (C.2.2.2.2.1 _ hini) C.2.2.2.2.2.1 hP hD hS k1 k0 2 2 (ty := .byte) hk1 hk0 rfl rfl rfl q1.1 q2.1 q3.1 (by rw [q1.2, q3.2]; exact h4) (by rw [q2.2, q3.2]; exact h5) (fun i hi => by rw [q1.2]; exact hfit i (by rw [q3.2] at hi; exact hi)) (by rw [hR']; exact hframes) (by rw [hR']; exact hlocals) d (fun H1 locs1 hP1 hD1 hS1 => ?_)
  rw [q1.2, q2.2, q3.2] at hP1 hD1
  exact kk H1 locs1 ⟨tH_put hk0 hm hP1 hD1, hS1⟩ ls hls
theorem tw_clone (C : tCx X A ss cc own ret rm nL) {index a n : Nat} {f : Nat → Int32} (hM : M a = some (.inl ((xXE X).2.1.1 2, n, .inl f))) (hfit : ∀ i : Nat, i < n → fits .byte (.int (f i)) = true) (hlink : Cond.methodLink own index ⟨"[B", "clone", "()Ljava/lang/Object;"⟩ ∈ GW) (hsame : Cond.sameMethod "[B" "java/lang/Object" "clone" "()Ljava/lang/Object;" ∈ GW) (hnat : Cond.native ⟨"java/lang/Object", "clone", "()Ljava/lang/Object;"⟩ ∈ GW) (hinst : Cond.instanceMethod ⟨"java/lang/Object", "clone", "()Ljava/lang/Object;"⟩ ∈ GW) (hsel : Cond.selects "[B" ⟨"[B", "clone", "()Ljava/lang/Object;"⟩ ⟨"java/lang/Object", "clone", "()Ljava/lang/Object;"⟩ ∈ GW) (hcl : va_Nw (.castable "[B" "java/lang/Cloneable") (xXs X))
    (hframes : 1 ≤ rm.frames) (hlocals : (st.map fun v => v.category).sum + 14 ≤ rm.locals) (h1 : nk + 1 ≤ rm.cells) (h2 : nz + n ≤ rm.slots) (d : decode cc pc = .ok (.invokevirtual index, 3))
    (kk : ∀ q, (∀ b f, M b = some f → b ≠ q) → TO X A Q (tU M q (.inl ((xXE X).2.1.1 2, n, .inl f))) (nk + 1) (nz + n) (pc + 3) L (.ref q :: st)) : TO X A Q M nk nz pc L (.ref a :: st) := by
  intro H locs hR ls hls
  obtain ⟨⟨ws, hP, hD, hm⟩, hS⟩ := hR
  obtain ⟨k0, hk0⟩ := hm _ _ hM
  have hR' : xXR X = rm := C.2.2.2.2.2.2.2.2.2.1
  refine va_clone C.1 C.2.1 (C.2.2.1.trans (hls.1.trans C.2.2.2.2.2.2.2.2.2.2.1).symm) C.2.2.2.1 (C.2.2.2.2.1 _ hlink) (C.2.2.2.2.1 _ hsame) (C.2.2.2.2.1 _ hnat) (C.2.2.2.2.1 _ hinst) (C.2.2.2.2.1 _ hsel) hcl C.2.2.2.2.2.1 hP hD hS C.2.2.2.2.2.2.2.1 k0 2 hk0 rfl (C.2.2.2.2.2.1.2 2 _ rfl).2 (fun i v hv => ?_) (by rw [hR']; exact hframes) (by rw [hR']; exact hlocals) (by rw [hR']; exact h1) (by rw [hR']; exact h2) d (fun q H1 hK1 hP1 hD1 hS1 => ?_)
  · have hi : i < n := by
      have := (Array.getElem?_eq_some_iff.mp hv).1
      rw [vp_cell_i, arrV_size] at this
      exact this
    rw [vp_cell_i, arrV_read _ _ hi] at hv
    cases hv
    exact hfit i hi
  · obtain ⟨g1, g2⟩ := tH_new hm hP1 hD1
    exact kk q g2 H1 locs ⟨g1, hS1⟩ ls hls
theorem tw_cast (C : tCx X A ss cc own ret rm nL) {index a : Nat} {x : vp_A} (hM : M a = some (.inl ((xXE X).2.1.1 2, x))) (hlink : Cond.classLink own index "[B" ∈ GW) (d : decode cc pc = .ok (.checkcast index, 3)) (kk : TO X A Q M nk nz (pc + 3) L (.ref a :: st)) : TO X A Q M nk nz pc L (.ref a :: st) := by
  intro H locs hR ls hl
  obtain ⟨⟨ws, hP, hD, hm⟩, hS⟩ := hR
  obtain ⟨k0, hk0⟩ := hm _ _ hM
  exact va_castA C.1 C.2.1 C.2.2.2.1 (C.2.2.2.2.1 _ hlink) hP k0 hk0 (C.2.2.2.2.2.1.2 2 _ rfl).2 d (kk H locs ⟨⟨ws, hP, hD, hm⟩, hS⟩ ls hl)
theorem tw_mmin (C : tCx X A ss cc own ret rm nL) {idx : Nat} {x y : Int} (hlink : Cond.methodLink own idx Lib.Math.min.name ∈ GW) (hstat : Cond.static Lib.Math.min.name ∈ GW) (hini : Cond.initialized "java/lang/Math" ∈ GW) (hcode : Cond.code Lib.Math.min.name Lib.Math.min.code 2 (some .int) ∈ GW) (hf : 1 ≤ rm.frames) (hl : (st.map fun v => v.category).sum + 13 ≤ rm.locals) (hz : nk ≤ rm.cells ∧ nz ≤ rm.slots) (d : decode cc pc = .ok (.invokestatic idx, 3)) (k : TO X A Q M nk nz (pc + 3) L (iV (zmin x y) :: st)) : TO X A Q M nk nz pc L (iV y :: iV x :: st) := by
  intro H locs hR ls hls
  have hR' : xXR X = rm := C.2.2.2.2.2.2.2.2.2.1
  have hkk := k H locs hR ls hls
  refine va_mmin C.1 C.2.1 (C.2.2.1.trans (hls.1.trans C.2.2.2.2.2.2.2.2.2.2.1).symm) C.2.2.2.1 (C.2.2.2.2.1 _ hlink) (C.2.2.2.2.1 _ hstat) (C.2.2.2.2.1 _ hini) (C.2.2.2.2.1 _ hcode) (by rw [hR']; exact hf) (by rw [hR']; exact hl) (by rw [hR']; exact hz.1) (by rw [hR']; exact hz.2) d ?_
  have e : (if Int32.ofInt y < Int32.ofInt x then Int32.ofInt y else Int32.ofInt x) = Int32.ofInt (zmin x y) := by
    unfold zmin
    by_cases q : zI y < zI x
    · rw [if_pos q, if_pos (i_lt.mpr q)]
    · rw [if_neg q, if_neg (fun z => q (i_lt.mp z))]
  rw [e]
  exact hkk
theorem tw_mmax (C : tCx X A ss cc own ret rm nL) {idx : Nat} {x y : Int} (hlink : Cond.methodLink own idx Lib.Math.max.name ∈ GW) (hstat : Cond.static Lib.Math.max.name ∈ GW) (hini : Cond.initialized "java/lang/Math" ∈ GW) (hcode : Cond.code Lib.Math.max.name Lib.Math.max.code 2 (some .int) ∈ GW) (hf : 1 ≤ rm.frames) (hl : (st.map fun v => v.category).sum + 13 ≤ rm.locals) (hz : nk ≤ rm.cells ∧ nz ≤ rm.slots) (d : decode cc pc = .ok (.invokestatic idx, 3)) (k : TO X A Q M nk nz (pc + 3) L (iV (zmax x y) :: st)) : TO X A Q M nk nz pc L (iV y :: iV x :: st) := by
  intro H locs hR ls hls
  have hR' : xXR X = rm := C.2.2.2.2.2.2.2.2.2.1
  have hkk := k H locs hR ls hls
  refine va_mmax C.1 C.2.1 (C.2.2.1.trans (hls.1.trans C.2.2.2.2.2.2.2.2.2.2.1).symm) C.2.2.2.1 (C.2.2.2.2.1 _ hlink) (C.2.2.2.2.1 _ hstat) (C.2.2.2.2.1 _ hini) (C.2.2.2.2.1 _ hcode) (by rw [hR']; exact hf) (by rw [hR']; exact hl) (by rw [hR']; exact hz.1) (by rw [hR']; exact hz.2) d ?_
  have e : (if Int32.ofInt x < Int32.ofInt y then Int32.ofInt y else Int32.ofInt x) = Int32.ofInt (zmax x y) := by
    unfold zmax
    by_cases q : zI x < zI y
    · rw [if_pos q, if_pos (i_lt.mpr q)]
    · rw [if_neg q, if_neg (fun z => q (i_lt.mp z))]
  rw [e]
  exact hkk
theorem tw_idiv (C : tCx X A ss cc own ret rm nL) {x y x' y' : Int} (hx : zI x = x') (hy : zI y = y') (h0 : y' ≠ 0) (d : decode cc pc = .ok (.idiv, 1)) (k : TO X A Q M nk nz (pc + 1) L (iV (x'.tdiv y') :: st)) : TO X A Q M nk nz pc L (iV y :: iV x :: st) := by
  subst hx
  subst hy
  intro H locs hR ls hl
  have := k H locs hR ls hl
  unfold iV at this ⊢
  rw [i_div] at this
  exact lv_idiv C.1 C.2.1 d (fun q => h0 (i_eq0.mp q)) this
end TROWS
