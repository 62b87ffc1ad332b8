/-! the law's text, parsed -/
section LTXT
variable {T : Nat → Int} {L p q : Nat} {u w z : List Int} {S S' : PSt} {δ β : Nat → Int}
/-- the numbers of a dough -/
def dV (x : Int) : List Nat := [bw x 1 15, bw (zshr x 4) 0 60, bw (zshr x 9) 1 10, bw (zshr x 12) 0 40, bw (zshr x 16) 0 120, bw (zshr x 20) 10 40, bw (zshr x 5) 180 240, bw (zshr x 14) 5 30, bw (zshr x 7) 60 400, bw (zshr x 11) 0 200]
def oV (x : Int) : List Nat := [bw x 1 3, bw (zshr x 3) 20 240, bw (zshr x 12) 5 30]
def iB (x : Int) : Nat := if x = 0 then 0 else 1
/-- an order's statement, and what stands behind it -/
def oX (x : Int) (u : List Int) : List Int := kb 21 ++ 32 :: ((117 + ((iB (zand x 1) : Nat) : Int)) :: 32 :: ((97 + ((iB (zand x 2) : Nat) : Int)) :: 32 :: (di (bw (zshr x 2) 1 40) ++ 32 :: (kb 22 ++ 32 :: (di (bw (zshr x 8) 200 1400) ++ 59 :: u)))))
/-- the whole text, and what stands behind it -/
def xT (c : Nat → Int) : List Int :=
  kb 2 ++ 32 :: (di (bw (c 0) 1 2) ++ 59 ::
  (kb 4 ++ 32 :: ((97 + ((0 : Nat) : Int)) :: 32 :: ftx dFl (dV (c 1)) (59 ::
  (kb 4 ++ 32 :: ((97 + ((1 : Nat) : Int)) :: 32 :: ftx dFl (dV (c 2)) (59 ::
  (kb 15 ++ 32 :: ftx oFl (oV (c 3)) (59 ::
  (kb 18 ++ 32 :: ((117 + ((0 : Nat) : Int)) :: 59 ::
  (kb 18 ++ 32 :: ((117 + ((1 : Nat) : Int)) :: 59 ::
  (kb 19 ++ 32 :: (kb 23 ++ 32 :: ((117 + ((0 : Nat) : Int)) :: 32 :: (di (bw (c 4) 1 40) ++ 59 ::
  (kb 19 ++ 32 :: (kb 23 ++ 32 :: ((117 + ((1 : Nat) : Int)) :: 32 :: (di (bw (zshr (c 4) 8) 1 40) ++ 59 ::
  (kb 19 ++ 32 :: (117 :: 32 :: (118 :: 32 :: (di (bw (zshr (c 4) 16) 1 40) ++ 59 ::
  (kb 20 ++ 32 :: (di (bw (c 5) 30 200) ++ 59 ::
  oX (c 6) (oX (c 7) (oX (c 8) (oX (c 9) []))))))))))))))))))))))))))))))
theorem lm_0 : (lb 0).map Int32.toInt = kb 2 ++ [32] := by decide +kernel
theorem lm_1 : (lb 1).map Int32.toInt = 59 :: (kb 4 ++ [32, 97 + ((0 : Nat) : Int)]) := by decide +kernel
theorem lm_2 : (lb 2).map Int32.toInt = 59 :: (kb 4 ++ [32, 97 + ((1 : Nat) : Int)]) := by decide +kernel
theorem lm_3 : (lb 3).map Int32.toInt = [59] := by decide +kernel
theorem lm_4 : (lb 4).map Int32.toInt = kb 15 ++ (32 :: (kb 16 ++ [32])) := by decide +kernel
theorem lm_5 : (lb 5).map Int32.toInt = 32 :: (kb 11 ++ [32]) := by decide +kernel
theorem lm_6 : (lb 6).map Int32.toInt = 32 :: (kb 17 ++ [32]) := by decide +kernel
theorem lm_7 : (lb 7).map Int32.toInt = kb 18 ++ (32 :: (117 + ((0 : Nat) : Int)) :: 59 :: (kb 18 ++ (32 :: (117 + ((1 : Nat) : Int)) :: [59]))) := by decide +kernel
theorem lm_8 : (lb 8).map Int32.toInt = kb 19 ++ (32 :: (kb 23 ++ (32 :: (117 + ((0 : Nat) : Int)) :: [32]))) := by decide +kernel
theorem lm_9 : (lb 9).map Int32.toInt = 59 :: (kb 19 ++ (32 :: (kb 23 ++ (32 :: (117 + ((1 : Nat) : Int)) :: [32])))) := by decide +kernel
theorem lm_10 : (lb 10).map Int32.toInt = 59 :: (kb 19 ++ (32 :: 117 :: 32 :: 118 :: [32])) := by decide +kernel
theorem lm_11 : (lb 11).map Int32.toInt = kb 20 ++ [32] := by decide +kernel
theorem lm_12 : (lb 12).map Int32.toInt = kb 21 ++ [32] := by decide +kernel
theorem lm_17 : (lb 17).map Int32.toInt = 32 :: (kb 22 ++ [32]) := by decide +kernel
theorem lm_18 : (lb 18).map Int32.toInt = 32 :: (kb 5 ++ [32]) := by decide +kernel
theorem lm_19 : (lb 19).map Int32.toInt = 32 :: (kb 6 ++ [32]) := by decide +kernel
theorem lm_20 : (lb 20).map Int32.toInt = 32 :: (kb 7 ++ [32]) := by decide +kernel
theorem lm_21 : (lb 21).map Int32.toInt = 32 :: (kb 8 ++ [32]) := by decide +kernel
theorem lm_22 : (lb 22).map Int32.toInt = 32 :: (kb 9 ++ [32]) := by decide +kernel
theorem lm_23 : (lb 23).map Int32.toInt = 32 :: (kb 10 ++ [32]) := by decide +kernel
theorem lm_24 : (lb 24).map Int32.toInt = 32 :: (kb 12 ++ [32]) := by decide +kernel
theorem lm_25 : (lb 25).map Int32.toInt = 32 :: (kb 13 ++ [32]) := by decide +kernel
theorem lm_26 : (lb 26).map Int32.toInt = 32 :: (kb 14 ++ [32]) := by decide +kernel
theorem lm_13 (x : Int) : (lb (if x = 0 then 13 else 14)).map Int32.toInt = [117 + ((iB x : Nat) : Int)] := by
  unfold iB
  split
  · decide +kernel
  · decide +kernel
theorem lm_15 (x : Int) : (lb (if x = 0 then 15 else 16)).map Int32.toInt = 32 :: (97 + ((iB x : Nat) : Int)) :: [32] := by
  unfold iB
  split
  · decide +kernel
  · decide +kernel
theorem dm (v : Nat) : (dec v).map Int32.toInt = di v := rfl
theorem ft_d (x : Int) : ftx dFl (dV x) z = kb 5 ++ 32 :: (di (bw x 1 15) ++ 32 :: (kb 6 ++ 32 :: (di (bw (zshr x 4) 0 60) ++ 32 :: (kb 7 ++ 32 :: (di (bw (zshr x 9) 1 10) ++ 32 :: (kb 8 ++ 32 :: (di (bw (zshr x 12) 0 40) ++ 32 :: (kb 9 ++ 32 :: (di (bw (zshr x 16) 0 120) ++ 32 :: (kb 10 ++ 32 :: (di (bw (zshr x 20) 10 40) ++ 32 :: (kb 11 ++ 32 :: (di (bw (zshr x 5) 180 240) ++ 32 :: (kb 12 ++ 32 :: (di (bw (zshr x 14) 5 30) ++ 32 :: (kb 13 ++ 32 :: (di (bw (zshr x 7) 60 400) ++ 32 :: (kb 14 ++ 32 :: (di (bw (zshr x 11) 0 200) ++ z))))))))))))))))))) := rfl
theorem ft_o (x : Int) : ftx oFl (oV x) z = kb 16 ++ 32 :: (di (bw x 1 3) ++ 32 :: (kb 11 ++ 32 :: (di (bw (zshr x 3) 20 240) ++ 32 :: (kb 17 ++ 32 :: (di (bw (zshr x 12) 5 30) ++ z))))) := rfl
theorem bT_map (c : Nat → Int) : (bT c).map Int32.toInt = xT c := by
  unfold bT bT1 bT0 oT dT xT oX
  simp only [ft_d, ft_o, List.map_append, lm_0, lm_1, lm_2, lm_3, lm_4, lm_5, lm_6, lm_7, lm_8, lm_9, lm_10, lm_11, lm_12, lm_17, lm_18, lm_19, lm_20, lm_21, lm_22, lm_23, lm_24, lm_25, lm_26, lm_13, lm_15, dm, List.append_assoc, List.cons_append, List.nil_append, List.map_nil]
theorem fok_d (x : Int) : fok dFl (dV x) := ⟨⟨by omega, by have := (bw_le (x := x) (show 1 ≤ 15 by omega)); omega, by have := (bw_le (x := x) (show 1 ≤ 15 by omega)); dsimp only; omega, by have := (bw_le (x := x) (show 1 ≤ 15 by omega)); dsimp only; omega⟩, ⟨by omega, by have := (bw_le (x := (zshr x 4)) (show 0 ≤ 60 by omega)); omega, by have := (bw_le (x := (zshr x 4)) (show 0 ≤ 60 by omega)); dsimp only; omega, by have := (bw_le (x := (zshr x 4)) (show 0 ≤ 60 by omega)); dsimp only; omega⟩, ⟨by omega, by have := (bw_le (x := (zshr x 9)) (show 1 ≤ 10 by omega)); omega, by have := (bw_le (x := (zshr x 9)) (show 1 ≤ 10 by omega)); dsimp only; omega, by have := (bw_le (x := (zshr x 9)) (show 1 ≤ 10 by omega)); dsimp only; omega⟩, ⟨by omega, by have := (bw_le (x := (zshr x 12)) (show 0 ≤ 40 by omega)); omega, by have := (bw_le (x := (zshr x 12)) (show 0 ≤ 40 by omega)); dsimp only; omega, by have := (bw_le (x := (zshr x 12)) (show 0 ≤ 40 by omega)); dsimp only; omega⟩, ⟨by omega, by have := (bw_le (x := (zshr x 16)) (show 0 ≤ 120 by omega)); omega, by have := (bw_le (x := (zshr x 16)) (show 0 ≤ 120 by omega)); dsimp only; omega, by have := (bw_le (x := (zshr x 16)) (show 0 ≤ 120 by omega)); dsimp only; omega⟩, ⟨by omega, by have := (bw_le (x := (zshr x 20)) (show 10 ≤ 40 by omega)); omega, by have := (bw_le (x := (zshr x 20)) (show 10 ≤ 40 by omega)); dsimp only; omega, by have := (bw_le (x := (zshr x 20)) (show 10 ≤ 40 by omega)); dsimp only; omega⟩, ⟨by omega, by have := (bw_le (x := (zshr x 5)) (show 180 ≤ 240 by omega)); omega, by have := (bw_le (x := (zshr x 5)) (show 180 ≤ 240 by omega)); dsimp only; omega, by have := (bw_le (x := (zshr x 5)) (show 180 ≤ 240 by omega)); dsimp only; omega⟩, ⟨by omega, by have := (bw_le (x := (zshr x 14)) (show 5 ≤ 30 by omega)); omega, by have := (bw_le (x := (zshr x 14)) (show 5 ≤ 30 by omega)); dsimp only; omega, by have := (bw_le (x := (zshr x 14)) (show 5 ≤ 30 by omega)); dsimp only; omega⟩, ⟨by omega, by have := (bw_le (x := (zshr x 7)) (show 60 ≤ 400 by omega)); omega, by have := (bw_le (x := (zshr x 7)) (show 60 ≤ 400 by omega)); dsimp only; omega, by have := (bw_le (x := (zshr x 7)) (show 60 ≤ 400 by omega)); dsimp only; omega⟩, ⟨by omega, by have := (bw_le (x := (zshr x 11)) (show 0 ≤ 200 by omega)); omega, by have := (bw_le (x := (zshr x 11)) (show 0 ≤ 200 by omega)); dsimp only; omega, by have := (bw_le (x := (zshr x 11)) (show 0 ≤ 200 by omega)); dsimp only; omega⟩, trivial⟩
theorem fok_o (x : Int) : fok oFl (oV x) := ⟨⟨by omega, by have := (bw_le (x := x) (show 1 ≤ 3 by omega)); omega, by have := (bw_le (x := x) (show 1 ≤ 3 by omega)); dsimp only; omega, by have := (bw_le (x := x) (show 1 ≤ 3 by omega)); dsimp only; omega⟩, ⟨by omega, by have := (bw_le (x := (zshr x 3)) (show 20 ≤ 240 by omega)); omega, by have := (bw_le (x := (zshr x 3)) (show 20 ≤ 240 by omega)); dsimp only; omega, by have := (bw_le (x := (zshr x 3)) (show 20 ≤ 240 by omega)); dsimp only; omega⟩, ⟨by omega, by have := (bw_le (x := (zshr x 12)) (show 5 ≤ 30 by omega)); omega, by have := (bw_le (x := (zshr x 12)) (show 5 ≤ 30 by omega)); dsimp only; omega, by have := (bw_le (x := (zshr x 12)) (show 5 ≤ 30 by omega)); dsimp only; omega⟩, trivial⟩
theorem iB_lt (x : Int) : iB x < 2 := by
  unfold iB
  split <;> omega
theorem HN_nil : HN [] 4 := fun h => absurd h (Nat.not_lt_zero _)
theorem oX_HN (x : Int) : HN (oX x u) 4 := kb_HN (by omega)
theorem st_oX {o t v r : Nat} {x : Int} (h : ZS T L (oX x u) S 2 o 2 t v r) (hr : r < 24) (hu : HN u 4) : ∃ S', sAll T L S = .inr S' ∧ ZS T L u S' 2 o 2 t v (r + 1) := by
  have b1 := bw_le (x := zshr x 2) (show 1 ≤ 40 by omega)
  have b2 := bw_le (x := zshr x 8) (show 200 ≤ 1400 by omega)
  exact st_order h hr (iB_lt _) (by omega) (iB_lt _) (by omega) b1 b2 hu
theorem kb_pos {i : Nat} (hi : i < 24) : 0 < (kb i ++ z).length := by
  have := (kb_K hi).2
  rw [List.length_append]
  omega
theorem S0_ZS (h : Atx T L u 0) (hu : HN u 4) : ZS T L u (S0 T L) 0 0 0 0 0 0 := by
  have hs : skF T L 0 = 0 := sk_0 h hu
  refine ⟨?_, PSV_S0, ⟨⟨rfl, rfl, rfl, rfl, rfl, rfl⟩, ⟨rfl, rfl⟩, fun i hi => absurd hi (Nat.not_lt_zero _)⟩, fun i hi => absurd hi (Nat.not_lt_zero _), fun i hi => absurd hi (Nat.not_lt_zero _)⟩
  show Atx T L u (skF T L 0)
  rw [hs]
  exact h
/-- fourteen statements -/
theorem run_14 (c : Nat → Int) (h : Atx T L (xT c) 0) : ∃ S', sRun T L L 0 (S0 T L) = .inr (14, S') ∧ ZS T L [] S' 2 1 2 3 1 4 := by
  have z0 := S0_ZS h (kb_HN (by omega))
  obtain ⟨S1x, e1, z1⟩ := st_mixers z0 rfl (by have := bw_le (x := c 0) (show 1 ≤ 2 by omega); omega) (kb_HN (by omega))
  have r1 := run_at (c := 0) z0 (kb_pos (by omega)) e1
  obtain ⟨S2x, e2, z2⟩ := st_dough z1 (by omega) (fok_d _) (kb_HN (by omega))
  have r2 := run_at (c := 1) z1 (kb_pos (by omega)) e2
  obtain ⟨S3x, e3, z3⟩ := st_dough z2 (by omega) (fok_d _) (kb_HN (by omega))
  have r3 := run_at (c := 2) z2 (kb_pos (by omega)) e3
  obtain ⟨S4x, e4, z4⟩ := st_oven z3 (by omega) (fok_o _) (kb_HN (by omega))
  have r4 := run_at (c := 3) z3 (kb_pos (by omega)) e4
  obtain ⟨S5x, e5, z5⟩ := st_shop z4 (by omega) (kb_HN (by omega))
  have r5 := run_at (c := 4) z4 (kb_pos (by omega)) e5
  obtain ⟨S6x, e6, z6⟩ := st_shop z5 (by omega) (kb_HN (by omega))
  have r6 := run_at (c := 5) z5 (kb_pos (by omega)) e6
  obtain ⟨S7x, e7, z7⟩ := st_home (i := 0) z6 (by omega) (by omega) (by omega) (by have := bw_le (x := c 4) (show 1 ≤ 40 by omega); omega) (kb_HN (by omega))
  have r7 := run_at (c := 6) z6 (kb_pos (by omega)) e7
  obtain ⟨S8x, e8, z8⟩ := st_home (i := 1) z7 (by omega) (by omega) (by omega) (by have := bw_le (x := zshr (c 4) 8) (show 1 ≤ 40 by omega); omega) (kb_HN (by omega))
  have r8 := run_at (c := 7) z7 (kb_pos (by omega)) e8
  obtain ⟨S9x, e9, z9⟩ := st_uv z8 (by omega) (by omega) (by have := bw_le (x := zshr (c 4) 16) (show 1 ≤ 40 by omega); omega) (kb_HN (by omega))
  have r9 := run_at (c := 8) z8 (kb_pos (by omega)) e9
  obtain ⟨S10x, e10, z10⟩ := st_van z9 (by omega) (by have := bw_le (x := c 5) (show 30 ≤ 200 by omega); omega) (oX_HN _)
  have r10 := run_at (c := 9) z9 (kb_pos (by omega)) e10
  obtain ⟨S11x, e11, z11⟩ := st_oX z10 (by omega) (oX_HN _)
  have r11 := run_at (c := 10) z10 (kb_pos (by omega)) e11
  obtain ⟨S12x, e12, z12⟩ := st_oX z11 (by omega) (oX_HN _)
  have r12 := run_at (c := 11) z11 (kb_pos (by omega)) e12
  obtain ⟨S13x, e13, z13⟩ := st_oX z12 (by omega) (oX_HN _)
  have r13 := run_at (c := 12) z12 (kb_pos (by omega)) e13
  obtain ⟨S14x, e14, z14⟩ := st_oX z13 (by omega) HN_nil
  have r14 := run_at (c := 13) z13 (kb_pos (by omega)) e14
  refine ⟨S14x, ?_, z14⟩
  rw [r1, r2, r3, r4, r5, r6, r7, r8, r9, r10, r11, r12, r13, r14, run_end (by have := z14.1.1; rw [List.length_nil] at this; omega)]
end LTXT
