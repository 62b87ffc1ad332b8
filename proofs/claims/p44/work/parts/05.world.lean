theorem cls_X1 : xCls 0 RX1 TX1 14 tyX1 := ⟨rfl, lay_X1, tyX1_ok, nmX1, rfl⟩
theorem cls_X2 : xCls 1 RX2 TX2 10 tyX2 := ⟨rfl, lay_X2, tyX2_ok, nmX2, rfl⟩
theorem cls_X3 : xCls 2 RX3 TX3 4 tyX3 := ⟨rfl, lay_X3, tyX3_ok, nmX3, rfl⟩
theorem cls_X4 : xCls 3 RX4 TX4 20 tyX4 := ⟨rfl, lay_X4, tyX4_ok, nmX4, rfl⟩
theorem cls_X5 : xCls 4 RX5 TX5 5 tyX5 := ⟨rfl, lay_X5, tyX5_ok, nmX5, rfl⟩
theorem cls_X6 : xCls 5 RX6 TX6 4 tyX6 := ⟨rfl, lay_X6, tyX6_ok, nmX6, rfl⟩
theorem cls_X7 : xCls 6 RX7 TX7 9 tyX7 := ⟨rfl, lay_X7, tyX7_ok, nmX7, rfl⟩
theorem cls_X8 : xCls 7 RX8 TX8 15 tyX8 := ⟨rfl, lay_X8, tyX8_ok, nmX8, rfl⟩
theorem cls_X9 : xCls 8 RX9 TX9 7 tyX9 := ⟨rfl, lay_X9, tyX9_ok, nmX9, rfl⟩
theorem cls_X10 : xCls 9 RX10 TX10 5 tyX10 := ⟨rfl, lay_X10, tyX10_ok, nmX10, rfl⟩
theorem cls_X12 : xCls 10 RX12 TX12 12 tyX12 := ⟨rfl, lay_X12, tyX12_ok, nmX12, rfl⟩
theorem cls_J0 : xCls 11 RJ0 TJ0 4 tyJ0 := ⟨rfl, lay_J0, tyJ0_ok, nmJ0, rfl⟩
theorem cls_J4 : xCls 12 RJ4 TJ4 4 tyJ4 := ⟨rfl, lay_J4, tyJ4_ok, nmJ4, rfl⟩
def shL : List (Nat × Nat) := [(30, 12), (2, 1600), (26, 9), (29, 5), (1, 6), (1, 7), (20, 14), (5, 6), (21, 10), (21, 10), (21, 10), (21, 10), (21, 10), (21, 10), (6, 4), (25, 4), (25, 4), (25, 4), (25, 4), (7, 24), (24, 5), (24, 5), (24, 5), (24, 5), (24, 5), (24, 5), (24, 5), (24, 5), (24, 5), (24, 5), (24, 5), (24, 5), (24, 5), (24, 5), (24, 5), (24, 5), (24, 5), (24, 5), (24, 5), (24, 5), (24, 5), (24, 5), (24, 5), (24, 5), (0, 3), (28, 7), (0, 20), (0, 20), (0, 20), (3, 20), (4, 8), (0, 8), (0, 8), (0, 8), (0, 8), (0, 8), (0, 8), (0, 8), (0, 8), (0, 1024), (20, 14), (5, 6), (21, 10), (21, 10), (21, 10), (21, 10), (21, 10), (21, 10), (6, 4), (25, 4), (25, 4), (25, 4), (25, 4), (7, 24), (24, 5), (24, 5), (24, 5), (24, 5), (24, 5), (24, 5), (24, 5), (24, 5), (24, 5), (24, 5), (24, 5), (24, 5), (24, 5), (24, 5), (24, 5), (24, 5), (24, 5), (24, 5), (24, 5), (24, 5), (24, 5), (24, 5), (24, 5), (24, 5), (0, 3), (28, 7), (0, 20), (0, 20), (0, 20), (3, 20), (4, 8), (0, 8), (0, 8), (0, 8), (0, 8), (0, 8), (0, 8), (0, 8), (0, 8), (0, 1024), (22, 4), (0, 12), (0, 12), (0, 12), (23, 20), (0, 60), (0, 60), (4, 6), (0, 60), (0, 60), (0, 60), (0, 60), (0, 60), (0, 60), (0, 60), (0, 60), (0, 60), (0, 60), (0, 60), (0, 4), (0, 4), (0, 4), (0, 4), (0, 24), (0, 24), (27, 15), (0, 7), (0, 7), (0, 7), (0, 128), (0, 128), (0, 128), (0, 128), (0, 3), (0, 7), (0, 3), (0, 7), (23, 20), (0, 60), (0, 60), (4, 6), (0, 60), (0, 60), (0, 60), (0, 60), (0, 60), (0, 60), (0, 60), (0, 60), (0, 60), (0, 60), (0, 60), (0, 4), (0, 4), (0, 4), (0, 4), (0, 24), (0, 24), (27, 15), (0, 7), (0, 7), (0, 7), (0, 128), (0, 128), (0, 128), (0, 128), (0, 3), (0, 7), (0, 3), (0, 7), (0, 0), (0, 0), (0, 0), (0, 0), (0, 0), (0, 0), (0, 0), (0, 0), (0, 0), (0, 0), (0, 0), (0, 0), (0, 0), (0, 0), (0, 0), (0, 0), (0, 0), (0, 0), (0, 0), (0, 0), (0, 0), (0, 0), (0, 0), (0, 0), (0, 0), (0, 0), (0, 0), (0, 0), (0, 0), (0, 0), (0, 0), (0, 0), (2, 0)]
def rtL : List (List Nat) := [[1, 0, 2, 0, 0, 114, 118, 139, 0, 0, 151, 172], [], [3, 4, 5, 0, 0, 0, 0, 0, 0], [1, 0, 0, 0, 0], [], [], [0, 0, 0, 0, 7, 0, 14, 0, 0, 45, 44, 0, 19, 0], [8, 9, 10, 11, 12, 13], [], [], [], [], [], [], [15, 16, 17, 18], [], [], [], [], [20, 21, 22, 23, 24, 25, 26, 27, 28, 29, 30, 31, 32, 33, 34, 35, 36, 37, 38, 39, 40, 41, 42, 43], [], [], [], [], [], [], [], [], [], [], [], [], [], [], [], [], [], [], [], [], [], [], [], [], [], [46, 47, 48, 49, 0, 50, 59], [], [], [], [], [51, 52, 53, 54, 55, 56, 57, 58], [], [], [], [], [], [], [], [], [], [0, 0, 0, 0, 61, 0, 68, 0, 0, 99, 98, 0, 73, 0], [62, 63, 64, 65, 66, 67], [], [], [], [], [], [], [69, 70, 71, 72], [], [], [], [], [74, 75, 76, 77, 78, 79, 80, 81, 82, 83, 84, 85, 86, 87, 88, 89, 90, 91, 92, 93, 94, 95, 96, 97], [], [], [], [], [], [], [], [], [], [], [], [], [], [], [], [], [], [], [], [], [], [], [], [], [], [100, 101, 102, 103, 0, 104, 113], [], [], [], [], [105, 106, 107, 108, 109, 110, 111, 112], [], [], [], [], [], [], [], [], [], [115, 116, 117, 0], [], [], [], [0, 0, 0, 119, 120, 121, 128, 129, 130, 0, 131, 0, 132, 0, 133, 134, 135, 136, 137, 138], [], [], [122, 123, 124, 125, 126, 127], [], [], [], [], [], [], [], [], [], [], [], [], [], [], [], [], [], [140, 141, 142, 0, 0, 143, 144, 145, 146, 147, 148, 0, 0, 149, 150], [], [], [], [], [], [], [], [], [], [], [], [0, 0, 0, 152, 153, 154, 161, 162, 163, 0, 164, 0, 165, 0, 166, 167, 168, 169, 170, 171], [], [], [155, 156, 157, 158, 159, 160], [], [], [], [], [], [], [], [], [], [], [], [], [], [], [], [], [], [173, 174, 175, 0, 0, 176, 177, 178, 179, 180, 181, 0, 0, 182, 183], [], [], [], [], [], [], [], [], [], [], [], [], [], [], [], [], [], [], [], [], [], [], [], [], [], [], [], [], [], [], [], [], [], [], [], [], [], [], [], [], [], [], [], []]
/-- which bakery a flag names -/
def bkA (v : Int) : Nat := if v = 0 then 6 else 60
/-- which row of bytes the scanner's flag names: its own empty one, the buffer -/
def txA (v : Int) : Nat := if v = 0 then 216 else 1
/-- the world behind the constructors: the class's object at 0, the reference's at 184, the law's row at 215 -/
def WW : xW := (185, fun k => shL.getD k (0, 0), fun k j v => if k = 0 ∧ (j = 3 ∨ j = 4) then some (bkA v) else if k = 3 ∧ j = 0 then some (txA v) else match (rtL.getD k []).getD j 0 with
  | 0 => none
  | a + 1 => some (a + 1))
def isBk (b : Nat) : Prop := b = 6 ∨ b = 60
def isRd (b : Nat) : Prop := b = 45 ∨ b = 99
def isNt (b : Nat) : Prop := b = 118 ∨ b = 151
def isPl (b : Nat) : Prop := b = 139 ∨ b = 172
theorem bk_A (v : Int) : isBk (bkA v) := by
  unfold bkA
  split
  · exact Or.inl rfl
  · exact Or.inr rfl
theorem rd_bk {b : Nat} (h : isBk b) : isRd (b + 39) := by rcases h with rfl | rfl <;> simp [isRd]
theorem ix_of {i : Int} {n : Nat} (h : 0 ≤ i ∧ i < (n : Int)) : i.toNat < n := by
  show i.toNat < n
  omega
/-- the cells whose references stay -/
def rkB (k : Nat) : Bool := !(k == 0) && !(k == 3)
theorem rt_of {k j a : Nat} {v : Int} (h : (rtL.getD k []).getD j 0 = a ∧ rkB k = true ∧ a ≠ 0) : WW.2.2 k j v = some a := by
  obtain ⟨h1, h2, h3⟩ := h
  have h4 : ¬ k = 0 ∧ ¬ k = 3 := by simpa [rkB] using h2
  show (if k = 0 ∧ (j = 3 ∨ j = 4) then some (bkA v) else if k = 3 ∧ j = 0 then some (txA v) else match (rtL.getD k []).getD j 0 with
    | 0 => none
    | a + 1 => some (a + 1)) = some a
  rw [if_neg (fun q => h4.1 q.1), if_neg (fun q => h4.2 q.1), h1]
  cases a with
  | zero => exact absurd rfl h3
  | succ a => rfl
theorem at_X12  : xAt WW 0 30 12 := by exact ⟨by decide, rfl⟩
theorem rt_X12_buffer  (v : Int) : WW.2.2 0 0 v = some 1 := by rfl
theorem at_X12_buffer  : xAt WW 1 2 1600 := by exact ⟨by decide, rfl⟩
theorem rt_X12_parser  (v : Int) : WW.2.2 0 2 v = some 2 := by rfl
theorem rt_X12_history  (v : Int) : WW.2.2 0 5 v = some 114 := by rfl
theorem rt_X12_night  (v : Int) : WW.2.2 0 6 v = some 118 := by rfl
theorem rt_X12_plan  (v : Int) : WW.2.2 0 7 v = some 139 := by rfl
theorem rt_X12_trialNight  (v : Int) : WW.2.2 0 10 v = some 151 := by rfl
theorem rt_X12_trialPlan  (v : Int) : WW.2.2 0 11 v = some 172 := by rfl
theorem at_X7  : xAt WW 2 26 9 := by exact ⟨by decide, rfl⟩
theorem rt_X7_scanner  (v : Int) : WW.2.2 2 0 v = some 3 := by rfl
theorem rt_X7_doughNames  (v : Int) : WW.2.2 2 1 v = some 4 := by rfl
theorem at_X7_doughNames  : xAt WW 4 1 6 := by exact ⟨by decide, rfl⟩
theorem rt_X7_shopNames  (v : Int) : WW.2.2 2 2 v = some 5 := by rfl
theorem at_X7_shopNames  : xAt WW 5 1 7 := by exact ⟨by decide, rfl⟩
theorem at_X10  : xAt WW 3 29 5 := by exact ⟨by decide, rfl⟩
theorem rt_X10_text {v : Int} (hv : v ≠ 0) : WW.2.2 3 0 v = some 1 := congrArg some (if_neg hv)
theorem at_X1 {b : Nat} (hb : isBk b) : xAt WW b 20 14 := by rcases hb with rfl | rfl <;> exact ⟨by decide, rfl⟩
theorem rt_X1_doughs {b : Nat} (hb : isBk b) (v : Int) : WW.2.2 b 4 v = some (b + 1) := by rcases hb with rfl | rfl <;> rfl
theorem at_X1_doughs {b : Nat} (hb : isBk b) : xAt WW (b + 1) 5 6 := by rcases hb with rfl | rfl <;> exact ⟨by decide, rfl⟩
theorem ex_X1_doughs {b : Nat} (hb : isBk b) {j : Nat} (h : j < 6) : xqi (b + 2 + j) < 185 ∧ shL.getD (b + 2 + j) (0, 0) = (21, 10) := by rcases hb with rfl | rfl <;> revert j <;> decide
theorem el_X1_doughs {b : Nat} (hb : isBk b) {i : Int} (h : 0 ≤ i ∧ i < (6 : Nat)) : xAt WW (b + 2 + i.toNat) 21 10 := ex_X1_doughs hb (ix_of h)
theorem rx_X1_doughs {b : Nat} (hb : isBk b) {j : Nat} (h : j < 6) : (rtL.getD (b + 1) []).getD j 0 = (b + 2 + j) ∧ rkB (b + 1) = true ∧ (b + 2 + j) ≠ 0 := by rcases hb with rfl | rfl <;> revert j <;> decide
theorem rl_X1_doughs {b : Nat} (hb : isBk b) {i : Int} (v : Int) (h : 0 ≤ i ∧ i < (6 : Nat)) : WW.2.2 (b + 1) i.toNat v = some (b + 2 + i.toNat) := rt_of (rx_X1_doughs hb (ix_of h))
theorem rt_X1_ovens {b : Nat} (hb : isBk b) (v : Int) : WW.2.2 b 6 v = some (b + 8) := by rcases hb with rfl | rfl <;> rfl
theorem at_X1_ovens {b : Nat} (hb : isBk b) : xAt WW (b + 8) 6 4 := by rcases hb with rfl | rfl <;> exact ⟨by decide, rfl⟩
theorem ex_X1_ovens {b : Nat} (hb : isBk b) {j : Nat} (h : j < 4) : xqi (b + 9 + j) < 185 ∧ shL.getD (b + 9 + j) (0, 0) = (25, 4) := by rcases hb with rfl | rfl <;> revert j <;> decide
theorem el_X1_ovens {b : Nat} (hb : isBk b) {i : Int} (h : 0 ≤ i ∧ i < (4 : Nat)) : xAt WW (b + 9 + i.toNat) 25 4 := ex_X1_ovens hb (ix_of h)
theorem rx_X1_ovens {b : Nat} (hb : isBk b) {j : Nat} (h : j < 4) : (rtL.getD (b + 8) []).getD j 0 = (b + 9 + j) ∧ rkB (b + 8) = true ∧ (b + 9 + j) ≠ 0 := by rcases hb with rfl | rfl <;> revert j <;> decide
theorem rl_X1_ovens {b : Nat} (hb : isBk b) {i : Int} (v : Int) (h : 0 ≤ i ∧ i < (4 : Nat)) : WW.2.2 (b + 8) i.toNat v = some (b + 9 + i.toNat) := rt_of (rx_X1_ovens hb (ix_of h))
theorem rt_X1_orders {b : Nat} (hb : isBk b) (v : Int) : WW.2.2 b 12 v = some (b + 13) := by rcases hb with rfl | rfl <;> rfl
theorem at_X1_orders {b : Nat} (hb : isBk b) : xAt WW (b + 13) 7 24 := by rcases hb with rfl | rfl <;> exact ⟨by decide, rfl⟩
theorem ex_X1_orders {b : Nat} (hb : isBk b) {j : Nat} (h : j < 24) : xqi (b + 14 + j) < 185 ∧ shL.getD (b + 14 + j) (0, 0) = (24, 5) := by rcases hb with rfl | rfl <;> revert j <;> decide
theorem el_X1_orders {b : Nat} (hb : isBk b) {i : Int} (h : 0 ≤ i ∧ i < (24 : Nat)) : xAt WW (b + 14 + i.toNat) 24 5 := ex_X1_orders hb (ix_of h)
theorem rx_X1_orders {b : Nat} (hb : isBk b) {j : Nat} (h : j < 24) : (rtL.getD (b + 13) []).getD j 0 = (b + 14 + j) ∧ rkB (b + 13) = true ∧ (b + 14 + j) ≠ 0 := by rcases hb with rfl | rfl <;> revert j <;> decide
theorem rl_X1_orders {b : Nat} (hb : isBk b) {i : Int} (v : Int) (h : 0 ≤ i ∧ i < (24 : Nat)) : WW.2.2 (b + 13) i.toNat v = some (b + 14 + i.toNat) := rt_of (rx_X1_orders hb (ix_of h))
theorem rt_X1_vanLoads {b : Nat} (hb : isBk b) (v : Int) : WW.2.2 b 10 v = some (b + 38) := by rcases hb with rfl | rfl <;> rfl
theorem at_X1_vanLoads {b : Nat} (hb : isBk b) : xAt WW (b + 38) 0 3 := by rcases hb with rfl | rfl <;> exact ⟨by decide, rfl⟩
theorem rt_X1_roads {b : Nat} (hb : isBk b) (v : Int) : WW.2.2 b 9 v = some (b + 39) := by rcases hb with rfl | rfl <;> rfl
theorem at_X9 {b : Nat} (hb : isRd b) : xAt WW b 28 7 := by rcases hb with rfl | rfl <;> exact ⟨by decide, rfl⟩
theorem rt_X9_from {b : Nat} (hb : isRd b) (v : Int) : WW.2.2 b 0 v = some (b + 1) := by rcases hb with rfl | rfl <;> rfl
theorem at_X9_from {b : Nat} (hb : isRd b) : xAt WW (b + 1) 0 20 := by rcases hb with rfl | rfl <;> exact ⟨by decide, rfl⟩
theorem rt_X9_to {b : Nat} (hb : isRd b) (v : Int) : WW.2.2 b 1 v = some (b + 2) := by rcases hb with rfl | rfl <;> rfl
theorem at_X9_to {b : Nat} (hb : isRd b) : xAt WW (b + 2) 0 20 := by rcases hb with rfl | rfl <;> exact ⟨by decide, rfl⟩
theorem rt_X9_minutes {b : Nat} (hb : isRd b) (v : Int) : WW.2.2 b 2 v = some (b + 3) := by rcases hb with rfl | rfl <;> rfl
theorem at_X9_minutes {b : Nat} (hb : isRd b) : xAt WW (b + 3) 0 20 := by rcases hb with rfl | rfl <;> exact ⟨by decide, rfl⟩
theorem rt_X9_closed {b : Nat} (hb : isRd b) (v : Int) : WW.2.2 b 3 v = some (b + 4) := by rcases hb with rfl | rfl <;> rfl
theorem at_X9_closed {b : Nat} (hb : isRd b) : xAt WW (b + 4) 3 20 := by rcases hb with rfl | rfl <;> exact ⟨by decide, rfl⟩
theorem rt_X9_shortest {b : Nat} (hb : isRd b) (v : Int) : WW.2.2 b 5 v = some (b + 5) := by rcases hb with rfl | rfl <;> rfl
theorem at_X9_shortest {b : Nat} (hb : isRd b) : xAt WW (b + 5) 4 8 := by rcases hb with rfl | rfl <;> exact ⟨by decide, rfl⟩
theorem ex_X9_shortest {b : Nat} (hb : isRd b) {j : Nat} (h : j < 8) : xqi (b + 6 + j) < 185 ∧ shL.getD (b + 6 + j) (0, 0) = (0, 8) := by rcases hb with rfl | rfl <;> revert j <;> decide
theorem el_X9_shortest {b : Nat} (hb : isRd b) {i : Int} (h : 0 ≤ i ∧ i < (8 : Nat)) : xAt WW (b + 6 + i.toNat) 0 8 := ex_X9_shortest hb (ix_of h)
theorem rx_X9_shortest {b : Nat} (hb : isRd b) {j : Nat} (h : j < 8) : (rtL.getD (b + 5) []).getD j 0 = (b + 6 + j) ∧ rkB (b + 5) = true ∧ (b + 6 + j) ≠ 0 := by rcases hb with rfl | rfl <;> revert j <;> decide
theorem rl_X9_shortest {b : Nat} (hb : isRd b) {i : Int} (v : Int) (h : 0 ≤ i ∧ i < (8 : Nat)) : WW.2.2 (b + 5) i.toNat v = some (b + 6 + i.toNat) := rt_of (rx_X9_shortest hb (ix_of h))
theorem rt_X9_rest {b : Nat} (hb : isRd b) (v : Int) : WW.2.2 b 6 v = some (b + 14) := by rcases hb with rfl | rfl <;> rfl
theorem at_X9_rest {b : Nat} (hb : isRd b) : xAt WW (b + 14) 0 1024 := by rcases hb with rfl | rfl <;> exact ⟨by decide, rfl⟩
theorem at_X3  : xAt WW 114 22 4 := by exact ⟨by decide, rfl⟩
theorem rt_X3_kinds  (v : Int) : WW.2.2 114 0 v = some 115 := by rfl
theorem at_X3_kinds  : xAt WW 115 0 12 := by exact ⟨by decide, rfl⟩
theorem rt_X3_indexes  (v : Int) : WW.2.2 114 1 v = some 116 := by rfl
theorem at_X3_indexes  : xAt WW 116 0 12 := by exact ⟨by decide, rfl⟩
theorem rt_X3_before  (v : Int) : WW.2.2 114 2 v = some 117 := by rfl
theorem at_X3_before  : xAt WW 117 0 12 := by exact ⟨by decide, rfl⟩
theorem at_X4 {b : Nat} (hb : isNt b) : xAt WW b 23 20 := by rcases hb with rfl | rfl <;> exact ⟨by decide, rfl⟩
theorem rt_X4_dough {b : Nat} (hb : isNt b) (v : Int) : WW.2.2 b 3 v = some (b + 1) := by rcases hb with rfl | rfl <;> rfl
theorem at_X4_dough {b : Nat} (hb : isNt b) : xAt WW (b + 1) 0 60 := by rcases hb with rfl | rfl <;> exact ⟨by decide, rfl⟩
theorem rt_X4_oven {b : Nat} (hb : isNt b) (v : Int) : WW.2.2 b 4 v = some (b + 2) := by rcases hb with rfl | rfl <;> rfl
theorem at_X4_oven {b : Nat} (hb : isNt b) : xAt WW (b + 2) 0 60 := by rcases hb with rfl | rfl <;> exact ⟨by decide, rfl⟩
theorem rt_X4_begun {b : Nat} (hb : isNt b) (v : Int) : WW.2.2 b 5 v = some (b + 3) := by rcases hb with rfl | rfl <;> rfl
theorem at_X4_begun {b : Nat} (hb : isNt b) : xAt WW (b + 3) 4 6 := by rcases hb with rfl | rfl <;> exact ⟨by decide, rfl⟩
theorem ex_X4_begun {b : Nat} (hb : isNt b) {j : Nat} (h : j < 6) : xqi (b + 4 + j) < 185 ∧ shL.getD (b + 4 + j) (0, 0) = (0, 60) := by rcases hb with rfl | rfl <;> revert j <;> decide
theorem el_X4_begun {b : Nat} (hb : isNt b) {i : Int} (h : 0 ≤ i ∧ i < (6 : Nat)) : xAt WW (b + 4 + i.toNat) 0 60 := ex_X4_begun hb (ix_of h)
theorem rx_X4_begun {b : Nat} (hb : isNt b) {j : Nat} (h : j < 6) : (rtL.getD (b + 3) []).getD j 0 = (b + 4 + j) ∧ rkB (b + 3) = true ∧ (b + 4 + j) ≠ 0 := by rcases hb with rfl | rfl <;> revert j <;> decide
theorem rl_X4_begun {b : Nat} (hb : isNt b) {i : Int} (v : Int) (h : 0 ≤ i ∧ i < (6 : Nat)) : WW.2.2 (b + 3) i.toNat v = some (b + 4 + i.toNat) := rt_of (rx_X4_begun hb (ix_of h))
theorem rt_X4_risen {b : Nat} (hb : isNt b) (v : Int) : WW.2.2 b 6 v = some (b + 10) := by rcases hb with rfl | rfl <;> rfl
theorem at_X4_risen {b : Nat} (hb : isNt b) : xAt WW (b + 10) 0 60 := by rcases hb with rfl | rfl <;> exact ⟨by decide, rfl⟩
theorem rt_X4_proofed {b : Nat} (hb : isNt b) (v : Int) : WW.2.2 b 7 v = some (b + 11) := by rcases hb with rfl | rfl <;> rfl
theorem at_X4_proofed {b : Nat} (hb : isNt b) : xAt WW (b + 11) 0 60 := by rcases hb with rfl | rfl <;> exact ⟨by decide, rfl⟩
theorem rt_X4_spoiled {b : Nat} (hb : isNt b) (v : Int) : WW.2.2 b 8 v = some (b + 12) := by rcases hb with rfl | rfl <;> rfl
theorem at_X4_spoiled {b : Nat} (hb : isNt b) : xAt WW (b + 12) 0 60 := by rcases hb with rfl | rfl <;> exact ⟨by decide, rfl⟩
theorem rt_X4_toShape {b : Nat} (hb : isNt b) (v : Int) : WW.2.2 b 10 v = some (b + 13) := by rcases hb with rfl | rfl <;> rfl
theorem at_X4_toShape {b : Nat} (hb : isNt b) : xAt WW (b + 13) 0 60 := by rcases hb with rfl | rfl <;> exact ⟨by decide, rfl⟩
theorem rt_X4_toBake {b : Nat} (hb : isNt b) (v : Int) : WW.2.2 b 12 v = some (b + 14) := by rcases hb with rfl | rfl <;> rfl
theorem at_X4_toBake {b : Nat} (hb : isNt b) : xAt WW (b + 14) 0 60 := by rcases hb with rfl | rfl <;> exact ⟨by decide, rfl⟩
theorem rt_X4_heat {b : Nat} (hb : isNt b) (v : Int) : WW.2.2 b 14 v = some (b + 15) := by rcases hb with rfl | rfl <;> rfl
theorem at_X4_heat {b : Nat} (hb : isNt b) : xAt WW (b + 15) 0 4 := by rcases hb with rfl | rfl <;> exact ⟨by decide, rfl⟩
theorem rt_X4_steady {b : Nat} (hb : isNt b) (v : Int) : WW.2.2 b 15 v = some (b + 16) := by rcases hb with rfl | rfl <;> rfl
theorem at_X4_steady {b : Nat} (hb : isNt b) : xAt WW (b + 16) 0 4 := by rcases hb with rfl | rfl <;> exact ⟨by decide, rfl⟩
theorem rt_X4_changed {b : Nat} (hb : isNt b) (v : Int) : WW.2.2 b 16 v = some (b + 17) := by rcases hb with rfl | rfl <;> rfl
theorem at_X4_changed {b : Nat} (hb : isNt b) : xAt WW (b + 17) 0 4 := by rcases hb with rfl | rfl <;> exact ⟨by decide, rfl⟩
theorem rt_X4_taken {b : Nat} (hb : isNt b) (v : Int) : WW.2.2 b 17 v = some (b + 18) := by rcases hb with rfl | rfl <;> rfl
theorem at_X4_taken {b : Nat} (hb : isNt b) : xAt WW (b + 18) 0 4 := by rcases hb with rfl | rfl <;> exact ⟨by decide, rfl⟩
theorem rt_X4_ready {b : Nat} (hb : isNt b) (v : Int) : WW.2.2 b 18 v = some (b + 19) := by rcases hb with rfl | rfl <;> rfl
theorem at_X4_ready {b : Nat} (hb : isNt b) : xAt WW (b + 19) 0 24 := by rcases hb with rfl | rfl <;> exact ⟨by decide, rfl⟩
theorem rt_X4_oldest {b : Nat} (hb : isNt b) (v : Int) : WW.2.2 b 19 v = some (b + 20) := by rcases hb with rfl | rfl <;> rfl
theorem at_X4_oldest {b : Nat} (hb : isNt b) : xAt WW (b + 20) 0 24 := by rcases hb with rfl | rfl <;> exact ⟨by decide, rfl⟩
theorem at_X8 {b : Nat} (hb : isPl b) : xAt WW b 27 15 := by rcases hb with rfl | rfl <;> exact ⟨by decide, rfl⟩
theorem rt_X8_due {b : Nat} (hb : isPl b) (v : Int) : WW.2.2 b 0 v = some (b + 1) := by rcases hb with rfl | rfl <;> rfl
theorem at_X8_due {b : Nat} (hb : isPl b) : xAt WW (b + 1) 0 7 := by rcases hb with rfl | rfl <;> exact ⟨by decide, rfl⟩
theorem rt_X8_load {b : Nat} (hb : isPl b) (v : Int) : WW.2.2 b 1 v = some (b + 2) := by rcases hb with rfl | rfl <;> rfl
theorem at_X8_load {b : Nat} (hb : isPl b) : xAt WW (b + 2) 0 7 := by rcases hb with rfl | rfl <;> exact ⟨by decide, rfl⟩
theorem rt_X8_readyAt {b : Nat} (hb : isPl b) (v : Int) : WW.2.2 b 2 v = some (b + 3) := by rcases hb with rfl | rfl <;> rfl
theorem at_X8_readyAt {b : Nat} (hb : isPl b) : xAt WW (b + 3) 0 7 := by rcases hb with rfl | rfl <;> exact ⟨by decide, rfl⟩
theorem rt_X8_setLoad {b : Nat} (hb : isPl b) (v : Int) : WW.2.2 b 5 v = some (b + 4) := by rcases hb with rfl | rfl <;> rfl
theorem at_X8_setLoad {b : Nat} (hb : isPl b) : xAt WW (b + 4) 0 128 := by rcases hb with rfl | rfl <;> exact ⟨by decide, rfl⟩
theorem rt_X8_setLate {b : Nat} (hb : isPl b) (v : Int) : WW.2.2 b 6 v = some (b + 5) := by rcases hb with rfl | rfl <;> rfl
theorem at_X8_setLate {b : Nat} (hb : isPl b) : xAt WW (b + 5) 0 128 := by rcases hb with rfl | rfl <;> exact ⟨by decide, rfl⟩
theorem rt_X8_setMinutes {b : Nat} (hb : isPl b) (v : Int) : WW.2.2 b 7 v = some (b + 6) := by rcases hb with rfl | rfl <;> rfl
theorem at_X8_setMinutes {b : Nat} (hb : isPl b) : xAt WW (b + 6) 0 128 := by rcases hb with rfl | rfl <;> exact ⟨by decide, rfl⟩
theorem rt_X8_setSlack {b : Nat} (hb : isPl b) (v : Int) : WW.2.2 b 8 v = some (b + 7) := by rcases hb with rfl | rfl <;> rfl
theorem at_X8_setSlack {b : Nat} (hb : isPl b) : xAt WW (b + 7) 0 128 := by rcases hb with rfl | rfl <;> exact ⟨by decide, rfl⟩
theorem rt_X8_shopsOfVan {b : Nat} (hb : isPl b) (v : Int) : WW.2.2 b 9 v = some (b + 8) := by rcases hb with rfl | rfl <;> rfl
theorem at_X8_shopsOfVan {b : Nat} (hb : isPl b) : xAt WW (b + 8) 0 3 := by rcases hb with rfl | rfl <;> exact ⟨by decide, rfl⟩
theorem rt_X8_vanOfShop {b : Nat} (hb : isPl b) (v : Int) : WW.2.2 b 10 v = some (b + 9) := by rcases hb with rfl | rfl <;> rfl
theorem at_X8_vanOfShop {b : Nat} (hb : isPl b) : xAt WW (b + 9) 0 7 := by rcases hb with rfl | rfl <;> exact ⟨by decide, rfl⟩
theorem rt_X8_bestShops {b : Nat} (hb : isPl b) (v : Int) : WW.2.2 b 13 v = some (b + 10) := by rcases hb with rfl | rfl <;> rfl
theorem at_X8_bestShops {b : Nat} (hb : isPl b) : xAt WW (b + 10) 0 3 := by rcases hb with rfl | rfl <;> exact ⟨by decide, rfl⟩
theorem rt_X8_arrival {b : Nat} (hb : isPl b) (v : Int) : WW.2.2 b 14 v = some (b + 11) := by rcases hb with rfl | rfl <;> rfl
theorem at_X8_arrival {b : Nat} (hb : isPl b) : xAt WW (b + 11) 0 7 := by rcases hb with rfl | rfl <;> exact ⟨by decide, rfl⟩
