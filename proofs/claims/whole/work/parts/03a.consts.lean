def WNM : List String := ["ROOM", "COOL", "MIXERS", "BAKERS", "DOUGH", "MIX", "RISE", "SHAPE", "PROOF", "LIMIT", "BAKE", "HEAT", "YIELD", "KEEP", "PRICE", "OVEN", "SHELVES", "RATE", "SHOP", "STREET", "VAN", "ORDER", "BY", "HOME"]
def WTX : List String := ["room", "cool", "mixers", "bakers", "dough", "mix", "rise", "shape", "proof", "limit", "bake", "heat", "yield", "keep", "price", "oven", "shelves", "rate", "shop", "street", "van", "order", "by", "home"]
def lenJS : List Nat := [4, 4, 6, 6, 5, 3, 4, 5, 5, 5, 4, 4, 5, 4, 5, 4, 7, 4, 4, 6, 3, 5, 2, 4]
def bytJS : List (List Int32) := [[114, 111, 111, 109], [99, 111, 111, 108], [109, 105, 120, 101, 114, 115], [98, 97, 107, 101, 114, 115], [100, 111, 117, 103, 104], [109, 105, 120], [114, 105, 115, 101], [115, 104, 97, 112, 101], [112, 114, 111, 111, 102], [108, 105, 109, 105, 116], [98, 97, 107, 101], [104, 101, 97, 116], [121, 105, 101, 108, 100], [107, 101, 101, 112], [112, 114, 105, 99, 101], [111, 118, 101, 110], [115, 104, 101, 108, 118, 101, 115], [114, 97, 116, 101], [115, 104, 111, 112], [115, 116, 114, 101, 101, 116], [118, 97, 110], [111, 114, 100, 101, 114], [98, 121], [104, 111, 109, 101]]
def SWT : List Int := [1, 2, 3, 4, 5, 0, 0, 0, 0, 0, 0, 0, 0, 0, 0, 6, 0, 0, 7, 8, 9, 10, 0, 0]
def SRl : List (String × Nat × String × Nat) := [("BakeryNightModel", 182, "room", 0), ("BakeryNightModel", 184, "cool", 1), ("BakeryNightModel", 186, "mixers", 2), ("BakeryNightModel", 188, "bakers", 3), ("BakeryNightModel", 190, "dough", 4), ("BakeryNightModel", 192, "mix", 5), ("BakeryNightModel", 194, "rise", 6), ("BakeryNightModel", 196, "shape", 7), ("BakeryNightModel", 198, "proof", 8), ("BakeryNightModel", 200, "limit", 9), ("BakeryNightModel", 202, "bake", 10), ("BakeryNightModel", 204, "heat", 11), ("BakeryNightModel", 205, "yield", 12), ("BakeryNightModel", 207, "keep", 13), ("BakeryNightModel", 209, "price", 14), ("BakeryNightModel", 211, "oven", 15), ("BakeryNightModel", 213, "shelves", 16), ("BakeryNightModel", 215, "rate", 17), ("BakeryNightModel", 217, "shop", 18), ("BakeryNightModel", 219, "street", 19), ("BakeryNightModel", 221, "van", 20), ("BakeryNightModel", 223, "order", 21), ("BakeryNightModel", 224, "by", 22), ("BakeryNightModel", 226, "home", 23)]
def SXl : List (Nat × String) := [(164, "no night is simulated"), (174, "no such batch"), (181, "no such stage")]
/-- the constants of the launch: the 24 words, their texts, the tables over them -/
def KW (ad : Nat → Nat → Nat) (A : Nat → Prop) (U : State) (H : Heap) : Prop :=
  (∀ i, i < 24 → va_Z "BakeryNight$Word" (WNM.getD i "") "LBakeryNight$Word;" (.ref (ad 0 i)) A U H ∧ va_O "BakeryNight$Word" (ad 0 i) A U H ∧ va_OF "java/lang/Enum" "ordinal" "I" (.int (Int32.ofNat i)) (ad 0 i) A U H ∧ va_OF "BakeryNight$Word" "text" "Ljava/lang/String;" (.ref (ad 1 i)) (ad 0 i) A U H) ∧
  (∀ i j, i < 24 → j < 24 → ad 0 i = ad 0 j → i = j) ∧
  va_Z "BakeryNight$Scanner" "WORDS" "[LBakeryNight$Word;" (.ref (ad 3 0)) A U H ∧ va_T (.object "BakeryNight$Word") (ad 3 0) 24 (fun j => .ref (ad 0 j)) A U H ∧
  va_Z "BakeryNight$1" "$SwitchMap$BakeryNight$Word" "[I" (.ref (ad 3 1)) A U H ∧ va_T .int (ad 3 1) 24 (fun j => .int (Int32.ofInt (SWT.getD j 0))) A U H ∧
  vk_S 24 lenJS bytJS (ad 1) (ad 2) A U H ∧
  va_Z "java/lang/String" "COMPACT_STRINGS" "Z" (.int 1) A U H ∧
  va_Zq "jdk/internal/util/Preconditions" "SIOOBE_FORMATTER" "Ljava/util/function/BiFunction;" A U H ∧
  (∀ q ∈ SRl, vk_R q.1 q.2.1 q.2.2.1 (ad 1 q.2.2.2) U) ∧ (∀ q ∈ SXl, vk_R "BakeryNight" q.1 q.2 (ad 4 q.1) U)
theorem KW_kept {ad : Nat → Nat → Nat} {A : Nat → Prop} {s U : State} {H H1 : Heap} (hW : s.WarmedH U.vm) (hq : ∀ a : Nat, a < H.size → ¬ A a → H1[a]? = H[a]?) (h : KW ad A s H) : KW ad A U H1 := by
  obtain ⟨h1, h2, h3, h4, h5, h6, h7, h8, h8b, h9, h10⟩ := h
  have hv := hW.alike
  refine ⟨fun i hi => ?_, h2, (va_Z.moved hv h3).kept hq, (va_T.moved hv h4).kept hq, (va_Z.moved hv h5).kept hq, (va_T.moved hv h6).kept hq, (vk_S.moved hv h7).kept hq, (va_Z.moved hv h8).kept hq, (va_Zq.moved hv h8b).kept hq, fun q hq => vk_R.warm hW (h9 q hq), fun q hq => vk_R.warm hW (h10 q hq)⟩
  obtain ⟨a, b, c, d⟩ := h1 i hi
  exact ⟨(va_Z.moved hv a).kept hq, (va_O.moved hv b).kept hq, (va_OF.moved hv c).kept hq, (va_OF.moved hv d).kept hq⟩
