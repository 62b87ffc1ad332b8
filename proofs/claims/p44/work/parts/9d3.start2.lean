/-! the start: the constants of the launch -/
def flatA : Jvm.Cond → List Jvm.Cond → List Jvm.Cond
  | .and a b, acc => flatA a (flatA b acc)
  | c, acc => c :: acc
theorem flatA_eq (T : Jvm.Cond) : ∀ acc : List Jvm.Cond, flatA T acc = flatC T ++ acc := by
  induction T with
  | and a b iha ihb =>
    intro acc
    rw [flatA, flatC, iha, ihb, List.append_assoc]
  | _ => intro acc; rfl
def nfl : List Jvm.Cond := flatA (Jvm.Cond.and given_1 narrow_1) []
theorem nfl_in {w : Jvm.Cond} (h : w ∈ nfl) : w ∈ flatC (Jvm.Cond.and given_1 narrow_1) := by
  have e : nfl = flatC (Jvm.Cond.and given_1 narrow_1) ++ [] := flatA_eq _ []
  rw [e, List.append_nil] at h
  exact h
def ps_ex : List Nat := [406, 423, 441, 460, 480, 65, 68, 72, 77, 83, 90, 98, 107, 117, 128, 501, 140, 153, 523, 546, 570, 595, 182, 167]
def ps_or : List Nat := [407, 424, 442, 461, 481, 66, 69, 73, 78, 84, 91, 99, 108, 118, 129, 502, 141, 154, 524, 547, 571, 596, 183, 168]
def ps_tx : List Nat := [408, 425, 443, 462, 482, 67, 70, 74, 79, 85, 92, 100, 109, 119, 130, 503, 142, 155, 525, 548, 572, 597, 184, 169]
def ps_wa : List Nat := [14, 15, 16, 17, 18, 19, 20, 21, 22, 23, 24, 25, 26, 27, 28, 29, 30, 31, 32, 33, 34, 35, 36, 37]
def ps_wb : List Nat := [41, 42, 43, 44, 45, 46, 47, 48, 49, 50, 51, 52, 53, 54, 55, 56, 57, 58, 59, 60, 61, 62, 63, 64]
def ps_s1 : List Nat := [1137, 1145, 1153, 1163, 1173, 1020, 1027, 1035, 1044, 1053, 1062, 1070, 1078, 1087, 1095, 1182, 1104, 1115, 1190, 1198, 1208, 1215, 1131, 1123]
def ps_sr : List Nat := []
def ps_sx : List Nat := []
def ps_l1 : List Nat := [669, 680, 796, 808, 813, 754, 830, 840, 858, 876, 895, 911, 919, 929, 934, 939, 946, 953, 692, 701, 711, 722, 733, 744, 764, 775, 785]
def ps_do : List Nat := [201, 202, 203, 204, 205, 206, 207, 208, 209, 210, 211, 212, 213, 214, 215, 216, 217, 218, 219, 220, 221, 222, 223, 224, 225, 226, 227, 228, 229, 230, 231, 232, 233, 234, 235, 236, 237, 238, 239, 240, 241, 242, 243, 244, 245, 246, 247, 248, 249, 250, 251, 252, 253, 254, 255, 256, 257, 258, 259, 260, 261, 262, 263, 264, 265, 266, 267, 268, 269, 270, 271, 272, 273, 274, 275, 276, 277, 278, 279, 280, 281, 282, 283, 284, 285, 286, 287, 288, 289, 290, 291, 292, 293, 294, 295, 296, 297, 298, 299, 300]
def ps_dt : List Nat := [304, 305, 306, 307, 308, 309, 310, 311, 312, 313, 314, 315, 316, 317, 318, 319, 320, 321, 322, 323, 324, 325, 326, 327, 328, 329, 330, 331, 332, 333, 334, 335, 336, 337, 338, 339, 340, 341, 342, 343, 344, 345, 346, 347, 348, 349, 350, 351, 352, 353, 354, 355, 356, 357, 358, 359, 360, 361, 362, 363, 364, 365, 366, 367, 368, 369, 370, 371, 372, 373, 374, 375, 376, 377, 378, 379, 380, 381, 382, 383, 384, 385, 386, 387, 388, 389, 390, 391, 392, 393, 394, 395, 396, 397, 398, 399, 400, 401, 402, 403]
def lK : List Nat := [101, 110, 116, 118, 127, 129, 131, 133, 135, 137, 139, 141, 143, 145, 147, 149, 151, 153, 155, 157, 159, 161, 163, 165, 167, 169, 171]
def wK : List Nat := [100, 106, 109, 112, 115, 118, 121, 124, 127, 130, 133, 136, 139, 142, 145, 148, 151, 154, 157, 160, 163, 166, 169, 172]
abbrev wS (i : Nat) : Jvm.Term := .static "BakeryNight$Word" (WNM.getD i "") "LBakeryNight$Word;"
abbrev wT (i : Nat) : Jvm.Term := .string "BakeryNight$Word" (wK.getD i 0)
abbrev wWO : Jvm.Term := .static "BakeryNight$Scanner" "WORDS" "[LBakeryNight$Word;"
abbrev wB : Jvm.Term := .static "BakeryNight$1" "$SwitchMap$BakeryNight$Word" "[I"
abbrev lT (i : Nat) : Jvm.Term := .string "BakeryNightLaw" (lK.getD i 0)
abbrev wDO : Jvm.Term := .static "java/lang/Integer" "DigitOnes" "[B"
abbrev wDT : Jvm.Term := .static "java/lang/Integer" "DigitTens" "[B"
theorem lt_all {P : Nat → Bool} {n i : Nat} (h : (List.range n).all P = true) (hi : i < n) : P i = true := List.all_eq_true.mp h i (List.mem_range.mpr hi)
set_option maxRecDepth 100000 in
theorem nf_ex : (List.range 24).all (fun i => decide (nfl[ps_ex.getD i 0]? = some (Cond.exactly (wS i) "BakeryNight$Word"))) = true := by decide +kernel
set_option maxRecDepth 100000 in
theorem nf_or : (List.range 24).all (fun i => decide (nfl[ps_or.getD i 0]? = some (Jvm.Cond.eq (.field (wS i) "java/lang/Enum" "ordinal" "I") (.int (Int32.ofNat i))))) = true := by decide +kernel
set_option maxRecDepth 100000 in
theorem nf_tx : (List.range 24).all (fun i => decide (nfl[ps_tx.getD i 0]? = some (Jvm.Cond.eq (.field (wS i) "BakeryNight$Word" "text" "Ljava/lang/String;") (wT i)))) = true := by decide +kernel
set_option maxRecDepth 100000 in
theorem nf_wa : (List.range 24).all (fun i => decide (nfl[ps_wa.getD i 0]? = some (Jvm.Cond.eq (.elem wWO (.int (Int32.ofNat i))) (wS i)))) = true := by decide +kernel
set_option maxRecDepth 100000 in
theorem nf_wb : (List.range 24).all (fun i => decide (nfl[ps_wb.getD i 0]? = some (Jvm.Cond.eq (.elem wB (.int (Int32.ofNat i))) (.int (Int32.ofInt (SWT.getD i 0)))))) = true := by decide +kernel
set_option maxRecDepth 100000 in
theorem nf_s1 : (List.range 24).all (fun i => decide (nfl[ps_s1.getD i 0]? = some (Cond.exactly (wT i) "java/lang/String"))) = true := by decide +kernel
set_option maxRecDepth 100000 in
theorem nf_s2 : (List.range 24).all (fun i => decide (nfl[ps_s1.getD i 0 + 1]? = some (Jvm.Cond.eq (.field (wT i) "java/lang/String" "coder" "B") (.int 0)))) = true := by decide +kernel
set_option maxRecDepth 100000 in
theorem nf_s3 : (List.range 24).all (fun i => decide (nfl[ps_s1.getD i 0 + 2]? = some (Cond.arrayOf (.field (wT i) "java/lang/String" "value" "[B") .byte))) = true := by decide +kernel
set_option maxRecDepth 100000 in
theorem nf_s4 : (List.range 24).all (fun i => decide (nfl[ps_s1.getD i 0 + 3]? = some (Jvm.Cond.eq (.length (.field (wT i) "java/lang/String" "value" "[B")) (.int (Int32.ofNat (lenJS.getD i 0)))))) = true := by decide +kernel
set_option maxRecDepth 100000 in
theorem nf_s5 : (List.range 24).all (fun i => (List.range (lenJS.getD i 0)).all (fun j => decide (nfl[ps_s1.getD i 0 + 4 + j]? = some (Jvm.Cond.eq (.elem (.field (wT i) "java/lang/String" "value" "[B") (.int (Int32.ofNat j))) (.int ((bytJS.getD i []).getD j 0)))))) = true := by decide +kernel
set_option maxRecDepth 100000 in
theorem nf_sr : SRl.all (fun q => decide (nfl[ps_sr.getD q.2.2.2 0]? = some (Jvm.Cond.eq (.string q.1 q.2.1) (wT q.2.2.2))) && decide (Cond.stringRef q.1 q.2.1 q.2.2.1 ∈ lw_tbl) && decide (q.2.2.2 < 24)) = true := by decide +kernel
set_option maxRecDepth 100000 in
theorem nf_sx : SXl.all (fun q => decide (Cond.exactly (.string "BakeryNight" q.1) "java/lang/String" ∈ nfl) && decide (Cond.stringRef "BakeryNight" q.1 q.2 ∈ lw_tbl)) = true := by decide +kernel
set_option maxRecDepth 100000 in
theorem nf_l1 : (List.range 27).all (fun i => decide (nfl[ps_l1.getD i 0]? = some (Cond.exactly (lT i) "java/lang/String"))) = true := by decide +kernel
set_option maxRecDepth 100000 in
theorem nf_l2 : (List.range 27).all (fun i => decide (nfl[ps_l1.getD i 0 + 1]? = some (Jvm.Cond.eq (.field (lT i) "java/lang/String" "coder" "B") (.int 0)))) = true := by decide +kernel
set_option maxRecDepth 100000 in
theorem nf_l3 : (List.range 27).all (fun i => decide (nfl[ps_l1.getD i 0 + 2]? = some (Cond.arrayOf (.field (lT i) "java/lang/String" "value" "[B") .byte))) = true := by decide +kernel
set_option maxRecDepth 100000 in
theorem nf_l4 : (List.range 27).all (fun i => decide (nfl[ps_l1.getD i 0 + 3]? = some (Jvm.Cond.eq (.length (.field (lT i) "java/lang/String" "value" "[B")) (.int (Int32.ofNat (lenLS.getD i 0)))))) = true := by decide +kernel
set_option maxRecDepth 100000 in
theorem nf_l5 : (List.range 27).all (fun i => (List.range (lenLS.getD i 0)).all (fun j => decide (nfl[ps_l1.getD i 0 + 4 + j]? = some (Jvm.Cond.eq (.elem (.field (lT i) "java/lang/String" "value" "[B") (.int (Int32.ofNat j))) (.int ((bytLS.getD i []).getD j 0)))))) = true := by decide +kernel
set_option maxRecDepth 100000 in
theorem nf_lr : SLl.all (fun q => decide (Cond.stringRef "BakeryNightLaw" q.1 q.2.1 ∈ lw_tbl) && decide (q.2.2 < 27) && decide (lK.getD q.2.2 0 = q.1)) = true := by decide +kernel
set_option maxRecDepth 100000 in
theorem nf_do : (List.range 100).all (fun i => decide (nfl[ps_do.getD i 0]? = some (Jvm.Cond.eq (.elem wDO (.int (Int32.ofNat i))) (.int (Int32.ofNat (48 + i % 10)))))) = true := by decide +kernel
set_option maxRecDepth 100000 in
theorem nf_dt : (List.range 100).all (fun i => decide (nfl[ps_dt.getD i 0]? = some (Jvm.Cond.eq (.elem wDT (.int (Int32.ofNat i))) (.int (Int32.ofNat (48 + i / 10)))))) = true := by decide +kernel
set_option maxRecDepth 100000 in
theorem nf_l6 : ∀ i, i < 27 → lenLS.getD i 0 < 2 ^ 31 := by decide +kernel
set_option maxRecDepth 100000 in
theorem nf_ls : (List.range 24).all (fun i => decide (Cond.laysStatic "BakeryNight$Word" (WNM.getD i "") "LBakeryNight$Word;" ∈ lw_tbl)) = true := by decide +kernel
theorem nf_in {l : List Cond} {P : Nat → Cond} {n i : Nat} (h : (List.range n).all (fun i => decide (P i ∈ l)) = true) (hi : i < n) : P i ∈ l := of_decide_eq_true (lt_all h hi)
theorem nf_at {P : Nat → Jvm.Cond} {pos : Nat → Nat} {n i : Nat} (h : (List.range n).all (fun i => decide (nfl[pos i]? = some (P i))) = true) (hi : i < n) : P i ∈ nfl := List.mem_of_getElem? (of_decide_eq_true (lt_all h hi))
set_option maxRecDepth 100000 in
theorem nf_d1 : ∀ i, i < 24 → ∀ j, j < 24 → Int32.ofNat i = Int32.ofNat j → i = j := by decide +kernel
set_option maxRecDepth 100000 in
theorem nf_d2 : ∀ i, i < 24 → ∀ j, j < 24 → Int32.ofNat (lenJS.getD i 0) = Int32.ofNat (lenJS.getD j 0) → (∀ k, k < lenJS.getD i 0 → k < lenJS.getD j 0 → (bytJS.getD i []).getD k 0 = (bytJS.getD j []).getD k 0) → i = j := by decide +kernel
set_option maxRecDepth 100000 in
theorem nf_d3 : ∀ i, i < 24 → lenJS.getD i 0 < 2 ^ 31 := by decide +kernel
section ST2
variable {args : Array Value} {s U : State} {A : Nat → Prop} {H : Heap}
theorem lt_OFi {o n d : String} {v v' : Value} {a : Nat} (h : va_OF o n d v a A U H) (h' : va_OF o n d v' a A U H) : v = v' := by
  obtain ⟨cf, k, i, f, cell, h1, h2, h3, h4, h5, -⟩ := h
  obtain ⟨cf', k', i', f', cell', g1, g2, g3, g4, g5, -⟩ := h'
  cases h1.symm.trans g1
  cases h3.symm.trans g3
  exact Option.some.inj (h5.symm.trans g5)
theorem lt_Ti {ty : FieldType} {t N N' : Nat} {f f' : Nat → Value} (h : va_T ty t N f A U H) (h' : va_T ty t N' f' A U H) : Int32.ofNat N = Int32.ofNat N' ∧ ∀ j, j < N → j < N' → f j = f' j := by
  obtain ⟨cell, h1, h2, h3, h4, h5, h6, -⟩ := h
  obtain ⟨cell', g1, g2, g3, g4, g5, g6, -⟩ := h'
  cases h1.symm.trans g1
  exact ⟨h5.symm.trans g5, fun j a b => Option.some.inj ((h6 j a).symm.trans (g6 j b))⟩
/-- a string of the launch -/
theorem lt_str {t : Jvm.Term} {N : Nat} {f : Nat → Value} (hN : N < 2 ^ 31) (hex : (Cond.exactly t "java/lang/String").before args s = true) (hco : (Jvm.Cond.eq (.field t "java/lang/String" "coder" "B") (.int 0)).before args s = true) (har : (Cond.arrayOf (.field t "java/lang/String" "value" "[B") .byte).before args s = true) (hle : (Jvm.Cond.eq (.length (.field t "java/lang/String" "value" "[B")) (.int (Int32.ofNat N))).before args s = true) (hel : ∀ j : Nat, j < N → (Jvm.Term.elem (.field t "java/lang/String" "value" "[B") (.int (Int32.ofNat j))).eval args s none [] s = some (f j)) (hA : ∀ a : Nat, a < s.heap.size → ¬ A a) :
    ∃ q : Nat × Nat, t.eval args s none [] s = some (.ref q.1) ∧ va_O "java/lang/String" q.1 A s s.heap ∧ va_OF "java/lang/String" "coder" "B" (.int 0) q.1 A s s.heap ∧ va_OF "java/lang/String" "value" "[B" (.ref q.2) q.1 A s s.heap ∧ va_T .byte q.2 N f A s s.heap := by
  obtain ⟨a, c, cA, kA, q1, q2, q3, q4, q5, q6, -⟩ := Cond.exactly_spec (args := args) (first := s) (o := none) (s := s) (idx := []) (t := t) (cls := "java/lang/String") hex
  obtain ⟨b, hb, hT⟩ := va_Tof (f := f) (A := A) hN har (va_eqt hle) hel hA
  exact ⟨(a, b), q1, va_Oof hex q1 hA, vk_OFof q1 (va_eqt hco) hA, vk_OFof q1 hb hA, hT⟩
theorem lt_ref {t : Jvm.Term} {C : String} (hex : (Cond.exactly t C).before args s = true) : ∃ a : Nat, t.eval args s none [] s = some (.ref a) := by
  obtain ⟨a, c, cA, kA, q1, -⟩ := Cond.exactly_spec (args := args) (first := s) (o := none) (s := s) (idx := []) (t := t) (cls := C) hex
  exact ⟨a, q1⟩
def lad (a0 a1 a2 : Nat → Nat) (w3 w4 d1 d2 : Nat) (x l5 l6 : Nat → Nat) (fl : Nat) : Nat → Nat → Nat := fun k i => match k with
  | 0 => a0 i
  | 1 => a1 i
  | 2 => a2 i
  | 3 => match i with
    | 0 => w3
    | 1 => w4
    | 2 => d1
    | _ => d2
  | 4 => x i
  | 5 => l5 i
  | 6 => l6 i
  | _ => fl
set_option maxRecDepth 100000 in
theorem lt_KW (hT : ∀ w ∈ lw_tbl, w.before args s = true) (hf : ∀ w ∈ nfl, w.before args s = true) (hA : ∀ a : Nat, a < s.heap.size → ¬ A a) : ∃ (a0 a1 a2 : Nat → Nat) (w3 w4 d1 d2 : Nat) (x l5 l6 : Nat → Nat), ∀ fl : Nat, KW (lad a0 a1 a2 w3 w4 d1 d2 x l5 l6 fl) A s s.heap := by
  have hW : ∀ i : Nat, ∃ a : Nat, i < 24 → (wS i).eval args s none [] s = some (.ref a) := fun i => by
    by_cases hi : i < 24
    · obtain ⟨a, h⟩ := lt_ref (hf _ (nf_at nf_ex hi))
      exact ⟨a, fun _ => h⟩
    · exact ⟨0, fun h => absurd h hi⟩
  obtain ⟨a0, h0⟩ := Classical.axiomOfChoice hW
  have hS : ∀ i : Nat, ∃ q : Nat × Nat, i < 24 → (wT i).eval args s none [] s = some (.ref q.1) ∧ va_O "java/lang/String" q.1 A s s.heap ∧ va_OF "java/lang/String" "coder" "B" (.int 0) q.1 A s s.heap ∧ va_OF "java/lang/String" "value" "[B" (.ref q.2) q.1 A s s.heap ∧ va_T .byte q.2 (lenJS.getD i 0) (fun j => .int ((bytJS.getD i []).getD j 0)) A s s.heap := fun i => by
    by_cases hi : i < 24
    · obtain ⟨q, h⟩ := lt_str (f := fun j => .int ((bytJS.getD i []).getD j 0)) (nf_d3 i hi) (hf _ (nf_at nf_s1 hi)) (hf _ (nf_at nf_s2 hi)) (hf _ (nf_at nf_s3 hi)) (hf _ (nf_at nf_s4 hi)) (fun j hj => va_eqt (hf _ (List.mem_of_getElem? (of_decide_eq_true (lt_all (lt_all nf_s5 hi) hj))))) hA
      exact ⟨q, fun _ => h⟩
    · exact ⟨(0, 0), fun h => absurd h hi⟩
  obtain ⟨a1, h1⟩ := Classical.axiomOfChoice hS
  have hX : ∀ k : Nat, ∃ a : Nat, ∀ t, (k, t) ∈ SXl → (Jvm.Term.string "BakeryNight" k).eval args s none [] s = some (.ref a) := fun k => by
    by_cases hk : ∃ t, (k, t) ∈ SXl
    · obtain ⟨t, ht⟩ := hk
      have h := List.all_eq_true.mp nf_sx _ ht
      simp only [Bool.and_eq_true, decide_eq_true_eq] at h
      obtain ⟨a, h⟩ := lt_ref (hf _ h.1)
      exact ⟨a, fun _ _ => h⟩
    · exact ⟨0, fun t ht => absurd ⟨t, ht⟩ hk⟩
  obtain ⟨x, hx⟩ := Classical.axiomOfChoice hX
  obtain ⟨w3, e3, t3⟩ := va_Tof (tm := wWO) (ty := .object "BakeryNight$Word") (N := 24) (f := fun j => .ref (a0 j)) (A := A) (by decide) (hf _ (by decide +kernel)) (va_eqt (hf _ (by decide +kernel))) (fun j hj => va_eqv (hf _ (nf_at nf_wa hj)) (h0 j hj)) hA
  obtain ⟨w4, e4, t4⟩ := va_Tof (tm := wB) (ty := .int) (N := 24) (f := fun j => .int (Int32.ofInt (SWT.getD j 0))) (A := A) (by decide) (hf _ (by decide +kernel)) (va_eqt (hf _ (by decide +kernel))) (fun j hj => va_eqt (hf _ (nf_at nf_wb hj))) hA
  have hL : ∀ i : Nat, ∃ q : Nat × Nat, i < 27 → (lT i).eval args s none [] s = some (.ref q.1) ∧ va_O "java/lang/String" q.1 A s s.heap ∧ va_OF "java/lang/String" "coder" "B" (.int 0) q.1 A s s.heap ∧ va_OF "java/lang/String" "value" "[B" (.ref q.2) q.1 A s s.heap ∧ va_T .byte q.2 (lenLS.getD i 0) (fun j => .int ((bytLS.getD i []).getD j 0)) A s s.heap := fun i => by
    by_cases hi : i < 27
    · obtain ⟨q, h⟩ := lt_str (f := fun j => .int ((bytLS.getD i []).getD j 0)) (nf_l6 i hi) (hf _ (nf_at nf_l1 hi)) (hf _ (nf_at nf_l2 hi)) (hf _ (nf_at nf_l3 hi)) (hf _ (nf_at nf_l4 hi)) (fun j hj => va_eqt (hf _ (List.mem_of_getElem? (of_decide_eq_true (lt_all (lt_all nf_l5 hi) hj))))) hA
      exact ⟨q, fun _ => h⟩
    · exact ⟨(0, 0), fun h => absurd h hi⟩
  obtain ⟨lq, hlq⟩ := Classical.axiomOfChoice hL
  obtain ⟨d1, g1, u1⟩ := va_Tof (tm := wDO) (ty := .byte) (N := 100) (f := fun j => .int (Int32.ofNat (48 + j % 10))) (A := A) (by decide) (hf _ (by decide +kernel)) (va_eqt (hf _ (by decide +kernel))) (fun j hj => va_eqt (hf _ (nf_at nf_do hj))) hA
  obtain ⟨d2, g2, u2⟩ := va_Tof (tm := wDT) (ty := .byte) (N := 100) (f := fun j => .int (Int32.ofNat (48 + j / 10))) (A := A) (by decide) (hf _ (by decide +kernel)) (va_eqt (hf _ (by decide +kernel))) (fun j hj => va_eqt (hf _ (nf_at nf_dt hj))) hA
  have iW : (Cond.initialized "BakeryNight$Word").before args s = true := hT _ (by decide +kernel)
  have kOF : ∀ i, i < 24 → va_OF "java/lang/Enum" "ordinal" "I" (.int (Int32.ofNat i)) (a0 i) A s s.heap := fun i hi => vk_OFof (h0 i hi) (va_eqt (hf _ (nf_at nf_or hi))) hA
  refine ⟨a0, fun i => (a1 i).1, fun i => (a1 i).2, w3, w4, d1, d2, x, fun i => (lq i).1, fun i => (lq i).2, fun fl => ⟨fun i hi => ⟨va_Zof (hT _ (nf_in nf_ls hi)) iW (h0 i hi) hA, va_Oof (hf _ (nf_at nf_ex hi)) (h0 i hi) hA, kOF i hi, vk_OFof (h0 i hi) (va_eqv (hf _ (nf_at nf_tx hi)) (h1 i hi).1) hA⟩, fun i j hi hj e => ?_, va_Zof (hT _ (by decide +kernel)) (hT _ (by decide +kernel)) e3 hA, t3, va_Zof (hT _ (by decide +kernel)) (hT _ (by decide +kernel)) e4 hA, t4, ⟨fun i hi => (h1 i hi).2, fun i j hi hj e => ?_⟩, va_Zof (hT _ (by decide +kernel)) (hT _ (by decide +kernel)) (va_eqt (hf _ (by decide +kernel))) hA, va_Zqof (hT _ (by decide +kernel)) (hT _ (by decide +kernel)) (hf _ (by decide +kernel)) hA, fun q hq => ?_, fun q hq => ?_, ⟨fun i hi => (hlq i hi).2, fun q hq => ?_, va_Zof (hT _ (by decide +kernel)) (hT _ (by decide +kernel)) g1 hA, u1, va_Zof (hT _ (by decide +kernel)) (hT _ (by decide +kernel)) g2 hA, u2⟩⟩⟩
  · have e' : a0 i = a0 j := e
    have hj' := kOF j hj
    rw [← e'] at hj'
    exact nf_d1 i hi j hj (Value.int.inj (lt_OFi (kOF i hi) hj'))
  · have e' : (a1 i).1 = (a1 j).1 := e
    obtain ⟨-, -, -, g1, g2⟩ := h1 i hi
    obtain ⟨-, -, -, g3, g4⟩ := h1 j hj
    rw [← e'] at g3
    have e2 : (a1 i).2 = (a1 j).2 := Value.ref.inj (lt_OFi g1 g3)
    rw [← e2] at g4
    obtain ⟨b1, b2⟩ := lt_Ti g2 g4
    exact nf_d2 i hi j hj b1 (fun k c1 c2 => Value.int.inj (b2 k c1 c2))
  · have h := List.all_eq_true.mp nf_sr q hq
    simp only [Bool.and_eq_true, decide_eq_true_eq] at h
    exact vk_R.of (hT _ h.1.2) (va_eqv (hf _ (List.mem_of_getElem? h.1.1)) (h1 _ h.2).1)
  · have h := List.all_eq_true.mp nf_sx q hq
    simp only [Bool.and_eq_true, decide_eq_true_eq] at h
    exact vk_R.of (hT _ h.2) (hx q.1 q.2 hq)
  · have h := List.all_eq_true.mp nf_lr q hq
    simp only [Bool.and_eq_true, decide_eq_true_eq] at h
    have e9 : (Jvm.Term.string "BakeryNightLaw" (lK.getD q.2.2 0)).eval args s none [] s = some (.ref (lq q.2.2).1) := (hlq q.2.2 h.1.2).1
    rw [h.2] at e9
    exact vk_R.of (hT _ h.1.1) e9
theorem lt_Nw (hT : ∀ w ∈ lw_tbl, w.before args s = true) : xNw s := fun q hq => va_Nw.of rfl (hT _ (by
  have h : NWl.all (fun q => decide (Cond.methodLinkNest q.1 q.2.1 q.2.2.1 q.2.2.2 ∈ lw_tbl)) = true := by decide +kernel
  exact of_decide_eq_true (List.all_eq_true.mp h q hq)))
end ST2
