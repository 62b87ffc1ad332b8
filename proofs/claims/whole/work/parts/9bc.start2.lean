/-! the start: the constants of the launch -/
def flatA : Jvm.Cond → List Jvm.Cond → List Jvm.Cond
  | .and a b, acc => flatA a (flatA b acc)
  | c, acc => c :: acc
theorem flatA_eq (T : Jvm.Cond) : ∀ acc : List Jvm.Cond, flatA T acc = flatC T ++ acc := by
  induction T with
  | and a b iha ihb =>
    intro acc
    rw [flatA, flatC, iha, ihb, List.append_assoc]
  | _ => intro acc; rfl
def nfl : List Jvm.Cond := flatA (Jvm.Cond.and given_1 narrow_1) []
theorem nfl_in {w : Jvm.Cond} (h : w ∈ nfl) : w ∈ flatC (Jvm.Cond.and given_1 narrow_1) := by
  have e : nfl = flatC (Jvm.Cond.and given_1 narrow_1) ++ [] := flatA_eq _ []
  rw [e, List.append_nil] at h
  exact h
def ps_ex : List Nat := [200, 217, 235, 254, 274, 65, 68, 72, 77, 83, 90, 98, 107, 117, 128, 295, 140, 153, 317, 340, 364, 389, 182, 167]
def ps_or : List Nat := [201, 218, 236, 255, 275, 66, 69, 73, 78, 84, 91, 99, 108, 118, 129, 296, 141, 154, 318, 341, 365, 390, 183, 168]
def ps_tx : List Nat := [202, 219, 237, 256, 276, 67, 70, 74, 79, 85, 92, 100, 109, 119, 130, 297, 142, 155, 319, 342, 366, 391, 184, 169]
def ps_wa : List Nat := [9, 10, 11, 12, 13, 14, 15, 16, 17, 18, 19, 20, 21, 22, 23, 24, 25, 26, 27, 28, 29, 30, 31, 32]
def ps_wb : List Nat := [41, 42, 43, 44, 45, 46, 47, 48, 49, 50, 51, 52, 53, 54, 55, 56, 57, 58, 59, 60, 61, 62, 63, 64]
def ps_s1 : List Nat := [885, 894, 903, 914, 925, 754, 762, 771, 781, 791, 801, 810, 819, 829, 838, 935, 848, 860, 944, 953, 964, 972, 878, 869]
def ps_sr : List Nat := [893, 902, 913, 924, 934, 761, 770, 780, 790, 800, 809, 818, 828, 837, 847, 943, 859, 868, 952, 963, 971, 981, 884, 877]
def ps_sx : List Nat := [491, 516, 533]
def wK : List Nat := [100, 106, 109, 112, 115, 118, 121, 124, 127, 130, 133, 136, 139, 142, 145, 148, 151, 154, 157, 160, 163, 166, 169, 172]
abbrev wS (i : Nat) : Jvm.Term := .static "BakeryNight$Word" (WNM.getD i "") "LBakeryNight$Word;"
abbrev wT (i : Nat) : Jvm.Term := .string "BakeryNight$Word" (wK.getD i 0)
abbrev wA : Jvm.Term := .static "BakeryNight$Scanner" "WORDS" "[LBakeryNight$Word;"
abbrev wB : Jvm.Term := .static "BakeryNight$1" "$SwitchMap$BakeryNight$Word" "[I"
theorem lt_all {P : Nat → Bool} {n i : Nat} (h : (List.range n).all P = true) (hi : i < n) : P i = true := List.all_eq_true.mp h i (List.mem_range.mpr hi)
set_option maxRecDepth 100000 in
theorem nf_ex : (List.range 24).all (fun i => decide (nfl[ps_ex.getD i 0]? = some (Cond.exactly (wS i) "BakeryNight$Word"))) = true := by decide +kernel
set_option maxRecDepth 100000 in
theorem nf_or : (List.range 24).all (fun i => decide (nfl[ps_or.getD i 0]? = some (Jvm.Cond.eq (.field (wS i) "java/lang/Enum" "ordinal" "I") (.int (Int32.ofNat i))))) = true := by decide +kernel
set_option maxRecDepth 100000 in
theorem nf_tx : (List.range 24).all (fun i => decide (nfl[ps_tx.getD i 0]? = some (Jvm.Cond.eq (.field (wS i) "BakeryNight$Word" "text" "Ljava/lang/String;") (wT i)))) = true := by decide +kernel
set_option maxRecDepth 100000 in
theorem nf_wa : (List.range 24).all (fun i => decide (nfl[ps_wa.getD i 0]? = some (Jvm.Cond.eq (.elem wA (.int (Int32.ofNat i))) (wS i)))) = true := by decide +kernel
set_option maxRecDepth 100000 in
theorem nf_wb : (List.range 24).all (fun i => decide (nfl[ps_wb.getD i 0]? = some (Jvm.Cond.eq (.elem wB (.int (Int32.ofNat i))) (.int (Int32.ofInt (SWT.getD i 0)))))) = true := by decide +kernel
set_option maxRecDepth 100000 in
theorem nf_s1 : (List.range 24).all (fun i => decide (nfl[ps_s1.getD i 0]? = some (Cond.exactly (wT i) "java/lang/String"))) = true := by decide +kernel
set_option maxRecDepth 100000 in
theorem nf_s2 : (List.range 24).all (fun i => decide (nfl[ps_s1.getD i 0 + 1]? = some (Jvm.Cond.eq (.field (wT i) "java/lang/String" "coder" "B") (.int 0)))) = true := by decide +kernel
set_option maxRecDepth 100000 in
theorem nf_s3 : (List.range 24).all (fun i => decide (nfl[ps_s1.getD i 0 + 2]? = some (Cond.arrayOf (.field (wT i) "java/lang/String" "value" "[B") .byte))) = true := by decide +kernel
set_option maxRecDepth 100000 in
theorem nf_s4 : (List.range 24).all (fun i => decide (nfl[ps_s1.getD i 0 + 3]? = some (Jvm.Cond.eq (.length (.field (wT i) "java/lang/String" "value" "[B")) (.int (Int32.ofNat (lenJS.getD i 0)))))) = true := by decide +kernel
set_option maxRecDepth 100000 in
theorem nf_s5 : (List.range 24).all (fun i => (List.range (lenJS.getD i 0)).all (fun j => decide (nfl[ps_s1.getD i 0 + 4 + j]? = some (Jvm.Cond.eq (.elem (.field (wT i) "java/lang/String" "value" "[B") (.int (Int32.ofNat j))) (.int ((bytJS.getD i []).getD j 0)))))) = true := by decide +kernel
set_option maxRecDepth 100000 in
theorem nf_sr : SRl.all (fun q => decide (nfl[ps_sr.getD q.2.2.2 0]? = some (Jvm.Cond.eq (.string q.1 q.2.1) (wT q.2.2.2))) && decide (Cond.stringRef q.1 q.2.1 q.2.2.1 ∈ lw_tbl) && decide (q.2.2.2 < 24)) = true := by decide +kernel
set_option maxRecDepth 100000 in
theorem nf_sx : SXl.all (fun q => decide (Cond.exactly (.string "BakeryNight" q.1) "java/lang/String" ∈ nfl) && decide (Cond.stringRef "BakeryNight" q.1 q.2 ∈ lw_tbl)) = true := by decide +kernel
set_option maxRecDepth 100000 in
theorem nf_ls : (List.range 24).all (fun i => decide (Cond.laysStatic "BakeryNight$Word" (WNM.getD i "") "LBakeryNight$Word;" ∈ lw_tbl)) = true := by decide +kernel
theorem nf_in {l : List Cond} {P : Nat → Cond} {n i : Nat} (h : (List.range n).all (fun i => decide (P i ∈ l)) = true) (hi : i < n) : P i ∈ l := of_decide_eq_true (lt_all h hi)
theorem nf_at {P : Nat → Jvm.Cond} {pos : Nat → Nat} {n i : Nat} (h : (List.range n).all (fun i => decide (nfl[pos i]? = some (P i))) = true) (hi : i < n) : P i ∈ nfl := List.mem_of_getElem? (of_decide_eq_true (lt_all h hi))
set_option maxRecDepth 100000 in
theorem nf_d1 : ∀ i, i < 24 → ∀ j, j < 24 → Int32.ofNat i = Int32.ofNat j → i = j := by decide +kernel
set_option maxRecDepth 100000 in
theorem nf_d2 : ∀ i, i < 24 → ∀ j, j < 24 → Int32.ofNat (lenJS.getD i 0) = Int32.ofNat (lenJS.getD j 0) → (∀ k, k < lenJS.getD i 0 → k < lenJS.getD j 0 → (bytJS.getD i []).getD k 0 = (bytJS.getD j []).getD k 0) → i = j := by decide +kernel
set_option maxRecDepth 100000 in
theorem nf_d3 : ∀ i, i < 24 → lenJS.getD i 0 < 2 ^ 31 := by decide +kernel
section ST2
variable {args : Array Value} {s U : State} {A : Nat → Prop} {H : Heap}
theorem lt_OFi {o n d : String} {v v' : Value} {a : Nat} (h : va_OF o n d v a A U H) (h' : va_OF o n d v' a A U H) : v = v' := by
  obtain ⟨cf, k, i, f, cell, h1, h2, h3, h4, h5, -⟩ := h
  obtain ⟨cf', k', i', f', cell', g1, g2, g3, g4, g5, -⟩ := h'
  cases h1.symm.trans g1
  cases h3.symm.trans g3
  exact Option.some.inj (h5.symm.trans g5)
theorem lt_Ti {ty : FieldType} {t N N' : Nat} {f f' : Nat → Value} (h : va_T ty t N f A U H) (h' : va_T ty t N' f' A U H) : Int32.ofNat N = Int32.ofNat N' ∧ ∀ j, j < N → j < N' → f j = f' j := by
  obtain ⟨cell, h1, h2, h3, h4, h5, h6, -⟩ := h
  obtain ⟨cell', g1, g2, g3, g4, g5, g6, -⟩ := h'
  cases h1.symm.trans g1
  exact ⟨h5.symm.trans g5, fun j a b => Option.some.inj ((h6 j a).symm.trans (g6 j b))⟩
/-- a string of the launch -/
theorem lt_str {t : Jvm.Term} {N : Nat} {f : Nat → Value} (hN : N < 2 ^ 31) (hex : (Cond.exactly t "java/lang/String").before args s = true) (hco : (Jvm.Cond.eq (.field t "java/lang/String" "coder" "B") (.int 0)).before args s = true) (har : (Cond.arrayOf (.field t "java/lang/String" "value" "[B") .byte).before args s = true) (hle : (Jvm.Cond.eq (.length (.field t "java/lang/String" "value" "[B")) (.int (Int32.ofNat N))).before args s = true) (hel : ∀ j : Nat, j < N → (Jvm.Term.elem (.field t "java/lang/String" "value" "[B") (.int (Int32.ofNat j))).eval args s none [] s = some (f j)) (hA : ∀ a : Nat, a < s.heap.size → ¬ A a) :
    ∃ q : Nat × Nat, t.eval args s none [] s = some (.ref q.1) ∧ va_O "java/lang/String" q.1 A s s.heap ∧ va_OF "java/lang/String" "coder" "B" (.int 0) q.1 A s s.heap ∧ va_OF "java/lang/String" "value" "[B" (.ref q.2) q.1 A s s.heap ∧ va_T .byte q.2 N f A s s.heap := by
  obtain ⟨a, c, cA, kA, q1, q2, q3, q4, q5, q6, -⟩ := Cond.exactly_spec (args := args) (first := s) (o := none) (s := s) (idx := []) (t := t) (cls := "java/lang/String") hex
  obtain ⟨b, hb, hT⟩ := va_Tof (f := f) (A := A) hN har (va_eqt hle) hel hA
  exact ⟨(a, b), q1, va_Oof hex q1 hA, vk_OFof q1 (va_eqt hco) hA, vk_OFof q1 hb hA, hT⟩
theorem lt_ref {t : Jvm.Term} {C : String} (hex : (Cond.exactly t C).before args s = true) : ∃ a : Nat, t.eval args s none [] s = some (.ref a) := by
  obtain ⟨a, c, cA, kA, q1, -⟩ := Cond.exactly_spec (args := args) (first := s) (o := none) (s := s) (idx := []) (t := t) (cls := C) hex
  exact ⟨a, q1⟩
def lad (a0 a1 a2 : Nat → Nat) (w3 w4 : Nat) (x : Nat → Nat) (fl : Nat) : Nat → Nat → Nat := fun k i => match k with
  | 0 => a0 i
  | 1 => a1 i
  | 2 => a2 i
  | 3 => match i with
    | 0 => w3
    | _ => w4
  | 4 => x i
  | _ => fl
set_option maxRecDepth 100000 in
theorem lt_KW (hT : ∀ w ∈ lw_tbl, w.before args s = true) (hf : ∀ w ∈ nfl, w.before args s = true) (hA : ∀ a : Nat, a < s.heap.size → ¬ A a) : ∃ (a0 a1 a2 : Nat → Nat) (w3 w4 : Nat) (x : Nat → Nat), ∀ fl : Nat, KW (lad a0 a1 a2 w3 w4 x fl) A s s.heap := by
  have hW : ∀ i : Nat, ∃ a : Nat, i < 24 → (wS i).eval args s none [] s = some (.ref a) := fun i => by
    by_cases hi : i < 24
    · obtain ⟨a, h⟩ := lt_ref (hf _ (nf_at nf_ex hi))
      exact ⟨a, fun _ => h⟩
    · exact ⟨0, fun h => absurd h hi⟩
  obtain ⟨a0, h0⟩ := Classical.axiomOfChoice hW
  have hS : ∀ i : Nat, ∃ q : Nat × Nat, i < 24 → (wT i).eval args s none [] s = some (.ref q.1) ∧ va_O "java/lang/String" q.1 A s s.heap ∧ va_OF "java/lang/String" "coder" "B" (.int 0) q.1 A s s.heap ∧ va_OF "java/lang/String" "value" "[B" (.ref q.2) q.1 A s s.heap ∧ va_T .byte q.2 (lenJS.getD i 0) (fun j => .int ((bytJS.getD i []).getD j 0)) A s s.heap := fun i => by
    by_cases hi : i < 24
    · obtain ⟨q, h⟩ := lt_str (f := fun j => .int ((bytJS.getD i []).getD j 0)) (nf_d3 i hi) (hf _ (nf_at nf_s1 hi)) (hf _ (nf_at nf_s2 hi)) (hf _ (nf_at nf_s3 hi)) (hf _ (nf_at nf_s4 hi)) (fun j hj => va_eqt (hf _ (List.mem_of_getElem? (of_decide_eq_true (lt_all (lt_all nf_s5 hi) hj))))) hA
      exact ⟨q, fun _ => h⟩
    · exact ⟨(0, 0), fun h => absurd h hi⟩
  obtain ⟨a1, h1⟩ := Classical.axiomOfChoice hS
  have hX : ∀ k : Nat, ∃ a : Nat, ∀ t, (k, t) ∈ SXl → (Jvm.Term.string "BakeryNight" k).eval args s none [] s = some (.ref a) := fun k => by
    by_cases hk : ∃ t, (k, t) ∈ SXl
    · obtain ⟨t, ht⟩ := hk
      have h := List.all_eq_true.mp nf_sx _ ht
      simp only [Bool.and_eq_true, decide_eq_true_eq] at h
      obtain ⟨a, h⟩ := lt_ref (hf _ h.1)
      exact ⟨a, fun _ _ => h⟩
    · exact ⟨0, fun t ht => absurd ⟨t, ht⟩ hk⟩
  obtain ⟨x, hx⟩ := Classical.axiomOfChoice hX
  obtain ⟨w3, e3, t3⟩ := va_Tof (tm := wA) (ty := .object "BakeryNight$Word") (N := 24) (f := fun j => .ref (a0 j)) (A := A) (by decide) (hf _ (by decide +kernel)) (va_eqt (hf _ (by decide +kernel))) (fun j hj => va_eqv (hf _ (nf_at nf_wa hj)) (h0 j hj)) hA
  obtain ⟨w4, e4, t4⟩ := va_Tof (tm := wB) (ty := .int) (N := 24) (f := fun j => .int (Int32.ofInt (SWT.getD j 0))) (A := A) (by decide) (hf _ (by decide +kernel)) (va_eqt (hf _ (by decide +kernel))) (fun j hj => va_eqt (hf _ (nf_at nf_wb hj))) hA
  have iW : (Cond.initialized "BakeryNight$Word").before args s = true := hT _ (by decide +kernel)
  have kOF : ∀ i, i < 24 → va_OF "java/lang/Enum" "ordinal" "I" (.int (Int32.ofNat i)) (a0 i) A s s.heap := fun i hi => vk_OFof (h0 i hi) (va_eqt (hf _ (nf_at nf_or hi))) hA
  refine ⟨a0, fun i => (a1 i).1, fun i => (a1 i).2, w3, w4, x, fun fl => ⟨fun i hi => ⟨va_Zof (hT _ (nf_in nf_ls hi)) iW (h0 i hi) hA, va_Oof (hf _ (nf_at nf_ex hi)) (h0 i hi) hA, kOF i hi, vk_OFof (h0 i hi) (va_eqv (hf _ (nf_at nf_tx hi)) (h1 i hi).1) hA⟩, fun i j hi hj e => ?_, va_Zof (hT _ (by decide +kernel)) (hT _ (by decide +kernel)) e3 hA, t3, va_Zof (hT _ (by decide +kernel)) (hT _ (by decide +kernel)) e4 hA, t4, ⟨fun i hi => (h1 i hi).2, fun i j hi hj e => ?_⟩, va_Zof (hT _ (by decide +kernel)) (hT _ (by decide +kernel)) (va_eqt (hf _ (by decide +kernel))) hA, va_Zqof (hT _ (by decide +kernel)) (hT _ (by decide +kernel)) (hf _ (by decide +kernel)) hA, fun q hq => ?_, fun q hq => ?_⟩⟩
  · have e' : a0 i = a0 j := e
    have hj' := kOF j hj
    rw [← e'] at hj'
    exact nf_d1 i hi j hj (Value.int.inj (lt_OFi (kOF i hi) hj'))
  · have e' : (a1 i).1 = (a1 j).1 := e
    obtain ⟨-, -, -, g1, g2⟩ := h1 i hi
    obtain ⟨-, -, -, g3, g4⟩ := h1 j hj
    rw [← e'] at g3
    have e2 : (a1 i).2 = (a1 j).2 := Value.ref.inj (lt_OFi g1 g3)
    rw [← e2] at g4
    obtain ⟨b1, b2⟩ := lt_Ti g2 g4
    exact nf_d2 i hi j hj b1 (fun k c1 c2 => Value.int.inj (b2 k c1 c2))
  · have h := List.all_eq_true.mp nf_sr q hq
    simp only [Bool.and_eq_true, decide_eq_true_eq] at h
    exact vk_R.of (hT _ h.1.2) (va_eqv (hf _ (List.mem_of_getElem? h.1.1)) (h1 _ h.2).1)
  · have h := List.all_eq_true.mp nf_sx q hq
    simp only [Bool.and_eq_true, decide_eq_true_eq] at h
    exact vk_R.of (hT _ h.2) (hx q.1 q.2 hq)
/-- what throws ask -/
theorem lt_XT (hT : ∀ w ∈ lw_tbl, w.before args s = true) (hf : ∀ w ∈ nfl, w.before args s = true) (hA : ∀ a : Nat, a < s.heap.size → ¬ A a) : XT A s s.heap := by
  refine ⟨vx_Zqof (hT _ (by decide +kernel)) (hT _ (by decide +kernel)) (hf _ (by decide +kernel)) hA, vx_Zqof (hT _ (by decide +kernel)) (hT _ (by decide +kernel)) (hf _ (by decide +kernel)) hA, fun y hy => va_Nw.of rfl (hT _ ?_), fun q hq => va_Nw.of rfl (hT _ ?_), va_Nc.of (hf _ (by decide +kernel))⟩
  · have h : XDl.all (fun y => decide (Cond.declares y ∈ lw_tbl)) = true := by decide +kernel
    exact of_decide_eq_true (List.all_eq_true.mp h y hy)
  · have h : XCl.all (fun q => decide (Cond.castable q q ∈ lw_tbl)) = true := by decide +kernel
    exact of_decide_eq_true (List.all_eq_true.mp h q hq)
theorem lt_Nw (hT : ∀ w ∈ lw_tbl, w.before args s = true) : xNw s := fun q hq => va_Nw.of rfl (hT _ (by
  have h : NWl.all (fun q => decide (Cond.methodLinkNest q.1 q.2.1 q.2.2.1 q.2.2.2 ∈ lw_tbl)) = true := by decide +kernel
  exact of_decide_eq_true (List.all_eq_true.mp h q hq)))
end ST2
