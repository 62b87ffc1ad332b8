def WNM : List String := ["ROOM", "COOL", "MIXERS", "BAKERS", "DOUGH", "MIX", "RISE", "SHAPE", "PROOF", "LIMIT", "BAKE", "HEAT", "YIELD", "KEEP", "PRICE", "OVEN", "SHELVES", "RATE", "SHOP", "STREET", "VAN", "ORDER", "BY", "HOME"]
def WTX : List String := ["room", "cool", "mixers", "bakers", "dough", "mix", "rise", "shape", "proof", "limit", "bake", "heat", "yield", "keep", "price", "oven", "shelves", "rate", "shop", "street", "van", "order", "by", "home"]
def lenJS : List Nat := [4, 4, 6, 6, 5, 3, 4, 5, 5, 5, 4, 4, 5, 4, 5, 4, 7, 4, 4, 6, 3, 5, 2, 4]
def bytJS : List (List Int32) := [[114, 111, 111, 109], [99, 111, 111, 108], [109, 105, 120, 101, 114, 115], [98, 97, 107, 101, 114, 115], [100, 111, 117, 103, 104], [109, 105, 120], [114, 105, 115, 101], [115, 104, 97, 112, 101], [112, 114, 111, 111, 102], [108, 105, 109, 105, 116], [98, 97, 107, 101], [104, 101, 97, 116], [121, 105, 101, 108, 100], [107, 101, 101, 112], [112, 114, 105, 99, 101], [111, 118, 101, 110], [115, 104, 101, 108, 118, 101, 115], [114, 97, 116, 101], [115, 104, 111, 112], [115, 116, 114, 101, 101, 116], [118, 97, 110], [111, 114, 100, 101, 114], [98, 121], [104, 111, 109, 101]]
def SWT : List Int := [1, 2, 3, 4, 5, 0, 0, 0, 0, 0, 0, 0, 0, 0, 0, 6, 0, 0, 7, 8, 9, 10, 0, 0]
def SRl : List (String × Nat × String × Nat) := []
def SXl : List (Nat × String) := [(164, "no night is simulated"), (174, "no such batch"), (181, "no such stage")]
def lenLS : List Nat := [7, 8, 8, 1, 13, 6, 6, 14, 14, 15, 12, 4, 6, 1, 1, 3, 3, 4, 5, 6, 7, 7, 7, 6, 7, 6, 7]
def bytLS : List (List Int32) := [[109, 105, 120, 101, 114, 115, 32], [59, 100, 111, 117, 103, 104, 32, 97], [59, 100, 111, 117, 103, 104, 32, 98], [59], [111, 118, 101, 110, 32, 115, 104, 101, 108, 118, 101, 115, 32], [32, 104, 101, 97, 116, 32], [32, 114, 97, 116, 101, 32], [115, 104, 111, 112, 32, 117, 59, 115, 104, 111, 112, 32, 118, 59], [115, 116, 114, 101, 101, 116, 32, 104, 111, 109, 101, 32, 117, 32], [59, 115, 116, 114, 101, 101, 116, 32, 104, 111, 109, 101, 32, 118, 32], [59, 115, 116, 114, 101, 101, 116, 32, 117, 32, 118, 32], [118, 97, 110, 32], [111, 114, 100, 101, 114, 32], [117], [118], [32, 97, 32], [32, 98, 32], [32, 98, 121, 32], [32, 109, 105, 120, 32], [32, 114, 105, 115, 101, 32], [32, 115, 104, 97, 112, 101, 32], [32, 112, 114, 111, 111, 102, 32], [32, 108, 105, 109, 105, 116, 32], [32, 98, 97, 107, 101, 32], [32, 121, 105, 101, 108, 100, 32], [32, 107, 101, 101, 112, 32], [32, 112, 114, 105, 99, 101, 32]]
def SLl : List (Nat × String × Nat) := [(101, "mixers ", 0), (110, ";dough a", 1), (116, ";dough b", 2), (118, ";", 3), (127, "oven shelves ", 4), (129, " heat ", 5), (131, " rate ", 6), (133, "shop u;shop v;", 7), (135, "street home u ", 8), (137, ";street home v ", 9), (139, ";street u v ", 10), (141, "van ", 11), (143, "order ", 12), (145, "u", 13), (147, "v", 14), (149, " a ", 15), (151, " b ", 16), (153, " by ", 17), (155, " mix ", 18), (157, " rise ", 19), (159, " shape ", 20), (161, " proof ", 21), (163, " limit ", 22), (165, " bake ", 23), (167, " yield ", 24), (169, " keep ", 25), (171, " price ", 26)]
/-- a string of one-byte letters that no walk writes: at a, its bytes at v, n of them -/
def Str (a v n : Nat) (f : Nat → Int32) (A : Nat → Prop) (U : State) (H : Heap) : Prop := va_O "java/lang/String" a A U H ∧ va_OF "java/lang/String" "coder" "B" (.int 0) a A U H ∧ va_OF "java/lang/String" "value" "[B" (.ref v) a A U H ∧ va_T .byte v n (fun j => .int (f j)) A U H
theorem Str_kept {a v n : Nat} {f : Nat → Int32} {A : Nat → Prop} {s U : State} {H H1 : Heap} (hW : s.WarmedH U.vm) (hq : ∀ a : Nat, a < H.size → ¬ A a → H1[a]? = H[a]?) (h : Str a v n f A s H) : Str a v n f A U H1 := by
  obtain ⟨h1, h2, h3, h4⟩ := h
  have hv := hW.alike
  exact ⟨(va_O.moved hv h1).kept hq, (va_OF.moved hv h2).kept hq, (va_OF.moved hv h3).kept hq, (va_T.moved hv h4).kept hq⟩
/-- the law's own strings, the rows of digits -/
def LWc (ad : Nat → Nat → Nat) (A : Nat → Prop) (U : State) (H : Heap) : Prop :=
  (∀ i, i < 27 → Str (ad 5 i) (ad 6 i) (lenLS.getD i 0) (fun j => (bytLS.getD i []).getD j 0) A U H) ∧ (∀ q ∈ SLl, vk_R "BakeryNightLaw" q.1 q.2.1 (ad 5 q.2.2) U) ∧
  va_Z "java/lang/Integer" "DigitOnes" "[B" (.ref (ad 3 2)) A U H ∧ va_T .byte (ad 3 2) 100 (fun j => .int (Int32.ofNat (48 + j % 10))) A U H ∧
  va_Z "java/lang/Integer" "DigitTens" "[B" (.ref (ad 3 3)) A U H ∧ va_T .byte (ad 3 3) 100 (fun j => .int (Int32.ofNat (48 + j / 10))) A U H
theorem LWc_kept {ad : Nat → Nat → Nat} {A : Nat → Prop} {s U : State} {H H1 : Heap} (hW : s.WarmedH U.vm) (hq : ∀ a : Nat, a < H.size → ¬ A a → H1[a]? = H[a]?) (h : LWc ad A s H) : LWc ad A U H1 := by
  obtain ⟨h1, h2, h3, h4, h5, h6⟩ := h
  have hv := hW.alike
  exact ⟨fun i hi => Str_kept hW hq (h1 i hi), fun q hq' => vk_R.warm hW (h2 q hq'), (va_Z.moved hv h3).kept hq, (va_T.moved hv h4).kept hq, (va_Z.moved hv h5).kept hq, (va_T.moved hv h6).kept hq⟩
/-- the constants of the launch: the 24 words, their texts, the tables over them -/
def KW (ad : Nat → Nat → Nat) (A : Nat → Prop) (U : State) (H : Heap) : Prop :=
  (∀ i, i < 24 → va_Z "BakeryNight$Word" (WNM.getD i "") "LBakeryNight$Word;" (.ref (ad 0 i)) A U H ∧ va_O "BakeryNight$Word" (ad 0 i) A U H ∧ va_OF "java/lang/Enum" "ordinal" "I" (.int (Int32.ofNat i)) (ad 0 i) A U H ∧ va_OF "BakeryNight$Word" "text" "Ljava/lang/String;" (.ref (ad 1 i)) (ad 0 i) A U H) ∧
  (∀ i j, i < 24 → j < 24 → ad 0 i = ad 0 j → i = j) ∧
  va_Z "BakeryNight$Scanner" "WORDS" "[LBakeryNight$Word;" (.ref (ad 3 0)) A U H ∧ va_T (.object "BakeryNight$Word") (ad 3 0) 24 (fun j => .ref (ad 0 j)) A U H ∧
  va_Z "BakeryNight$1" "$SwitchMap$BakeryNight$Word" "[I" (.ref (ad 3 1)) A U H ∧ va_T .int (ad 3 1) 24 (fun j => .int (Int32.ofInt (SWT.getD j 0))) A U H ∧
  vk_S 24 lenJS bytJS (ad 1) (ad 2) A U H ∧
  va_Z "java/lang/String" "COMPACT_STRINGS" "Z" (.int 1) A U H ∧
  va_Zq "jdk/internal/util/Preconditions" "SIOOBE_FORMATTER" "Ljava/util/function/BiFunction;" A U H ∧
  (∀ q ∈ SRl, vk_R q.1 q.2.1 q.2.2.1 (ad 1 q.2.2.2) U) ∧ (∀ q ∈ SXl, vk_R "BakeryNight" q.1 q.2 (ad 4 q.1) U) ∧ LWc ad A U H
theorem KW_kept {ad : Nat → Nat → Nat} {A : Nat → Prop} {s U : State} {H H1 : Heap} (hW : s.WarmedH U.vm) (hq : ∀ a : Nat, a < H.size → ¬ A a → H1[a]? = H[a]?) (h : KW ad A s H) : KW ad A U H1 := by
  obtain ⟨h1, h2, h3, h4, h5, h6, h7, h8, h8b, h9, h10, h11⟩ := h
  have hv := hW.alike
  refine ⟨fun i hi => ?_, h2, (va_Z.moved hv h3).kept hq, (va_T.moved hv h4).kept hq, (va_Z.moved hv h5).kept hq, (va_T.moved hv h6).kept hq, (vk_S.moved hv h7).kept hq, (va_Z.moved hv h8).kept hq, (va_Zq.moved hv h8b).kept hq, fun q hq => vk_R.warm hW (h9 q hq), fun q hq => vk_R.warm hW (h10 q hq), LWc_kept hW hq h11⟩
  obtain ⟨a, b, c, d⟩ := h1 i hi
  exact ⟨(va_Z.moved hv a).kept hq, (va_O.moved hv b).kept hq, (va_OF.moved hv c).kept hq, (va_OF.moved hv d).kept hq⟩
