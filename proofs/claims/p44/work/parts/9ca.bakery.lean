/-! the law's bakery: its text -/
theorem zI_zand {x y : Int} : zI (zand x y) = zand x y := by
  unfold zI zand
  rw [Int32.ofInt_toInt]
theorem sT_keep {E : xE} {M M2 : tMp} {b v cap N a w : Nat} {t : List Int32} (h : sT E M b v t cap N) (hk : ∀ q e, M q = some e → M2 q = some e ∧ q ≠ a ∧ q ≠ w) : sT E M2 b v t cap N ∧ v ≠ w := by
  obtain ⟨f, h1, h2⟩ := h
  exact ⟨⟨f, ⟨(hk _ _ h1.1).1, (hk _ _ h1.2).1⟩, h2⟩, (hk _ _ h1.2).2.2⟩
theorem kp_dough {M Mi Mj : tMp} {b v a w : Nat} (h : ∀ q e, M q = some e → Mi q = some e ∧ q ≠ b ∧ q ≠ v) (hk : ∀ q e, Mi q = some e → Mj q = some e ∧ q ≠ a ∧ q ≠ w) : ∀ q e, M q = some e → Mj q = some e ∧ q ≠ b ∧ q ≠ v ∧ q ≠ a ∧ q ≠ w := fun q e hq => by
  obtain ⟨h1, h2, h3⟩ := h q e hq
  obtain ⟨g1, g2, g3⟩ := hk q e h1
  exact ⟨g1, h2, h3, g2, g3⟩
def oT (t : List Int32) (z : Int) : List Int32 := t ++ lb 12 ++ lb (if zand z 1 = 0 then 13 else 14) ++ lb (if zand z 2 = 0 then 15 else 16) ++ dec (bw (zshr z 2) 1 40) ++ lb 17 ++ dec (bw (zshr z 8) 200 1400) ++ lb 3
theorem bk_turn {X : xX} {A : Nat → Prop} {ss : tSs} {Q : State → Prop} {rm : Room} (C : tCx X A ss cL_bakery "BakeryNightLaw" (some (.object "java/lang/String")) rm 7) (hf : 6 ≤ rm.frames ∧ 246 ≤ rm.locals) {b : Nat} (sr n : Nat) (xs : Nat → Int32) (hS : .inr (sr, n, xs) ∈ ss) (hn : n ≤ 260) (fr : Nat) (hfr : fr ≤ 20) (k : Nat) (hk : k < 4) {M : tMp} {v cap N : Nat} {t : List Int32} {nk nz : Nat} (g0 : sT (xXE X) M b v t cap N) (hN : N + 60 ≤ 1900) (hc : nk + 7 ≤ rm.cells) (hs : nz + 28000 ≤ rm.slots) (kk : ∀ M' v' cap', sT (xXE X) M' b v' (oT t (cl xs n (fr + 6 + k))) cap' (N + 6 + 1 + 3 + 4 + 4 + 4 + 1) → TO X A Q M' (nk + 7) (nz + 28000) 253 [(0, .ref sr), (1, iV (fr : Int)), (2, .ref b), (5, iV ((k : Int) + 1))] []) : TO X A Q M nk nz 253 [(0, .ref sr), (1, iV (fr : Int)), (2, .ref b), (5, iV (k : Int))] [] := by
  refine tw_iload C 3 dL_bakery_253 rfl ?_
  refine tw_iconst C (4) dL_bakery_255 rfl ?_
  refine tw_icmp_ge C 359 (x' := (k : Int)) (y' := 4) (zN k (by omega)) (zI_eq (by decide) (by decide)) dL_bakery_256 rfl (fun hc => absurd hc (by omega)) (fun _ => ?_)
  refine tw_aload_n C 0 dL_bakery_259 rfl rfl ?_
  refine tw_iload_n C 1 dL_bakery_260 rfl rfl ?_
  refine tw_bipush C (6) dL_bakery_261 rfl ?_
  refine tw_iadd C dL_bakery_263 ?_
  refine tw_iload C 3 dL_bakery_264 rfl ?_
  refine tw_iadd C dL_bakery_266 ?_
  refine tw_callS C (tGo_same C) (As := [.ref sr, iV ((fr + 6 + k : Nat) : Int)]) (tc_L_cell _ _ _ _ _ sr n xs hS hn (fr + 6 + k) (by omega)) mt_L_cell st_L_cell wd854 rfl ⟨by show 0 + 1 ≤ _; omega, by show 8 + (2 + 11) + 0 ≤ _; omega⟩ (by show _ + 0 ≤ _ ∧ _ + 0 ≤ _; omega) (rfl) (Nat.le_of_ble_eq_true rfl) dL_bakery_267 ?_
  rintro _ MQ ⟨rfl, hQ⟩
  have hQ := hQ.symm
  subst hQ
  show TO X A _ _ (nk + 0) (nz + 0) 270 _ (iV (cl xs n (fr + 6 + k)) :: [])
  refine tw_istore C dL_bakery_270 (by decide) rfl ?_
  refine tw_aload_n C 3 dL_bakery_272 rfl rfl ?_
  refine tw_ldcS C (List.mem_of_getElem? (i := 12) rfl) dL_bakery_273 ?_
  refine tw_appS C (12) (lb (12)) 6 (by decide) rfl (by decide +kernel) (by decide +kernel) (bL_lb _ (by decide)) g0 (by omega) hf (by omega) (Nat.le_of_ble_eq_true rfl) dL_bakery_275 (fun M1 v1 cap1 g1 _ => ?_)
  show TO X A _ _ (nk + 1) (nz + 4000) 278 _ (.ref b :: [])
  refine tw_iload C 0 dL_bakery_278 rfl ?_
  refine tw_iconst C (1) dL_bakery_280 rfl ?_
  refine tw_iand C dL_bakery_281 ?_
  suffices hj : TO X A Q M1 (nk + 1) (nz + 4000) 292 [(6, iV (cl xs n (fr + 6 + k))), (0, .ref sr), (1, iV (fr : Int)), (2, .ref b), (5, iV (k : Int))] (.ref ((xXE X).2.1.2.2 5 (if zand (cl xs n (fr + 6 + k)) 1 = 0 then 13 else 14)) :: .ref b :: []) by
    refine tw_if_ne C 290 zI_zand dL_bakery_282 rfl (fun hc => ?_) (fun hc => ?_)
    · rw [if_neg hc] at hj
      exact tw_ldcS C (List.mem_of_getElem? (i := 14) rfl) dL_bakery_290 hj
    · rw [if_pos hc] at hj
      exact tw_ldcS C (List.mem_of_getElem? (i := 13) rfl) dL_bakery_285 (tw_goto C 292 dL_bakery_287 rfl hj)
  refine tw_appS C (if zand (cl xs n (fr + 6 + k)) 1 = 0 then 13 else 14) (lb (if zand (cl xs n (fr + 6 + k)) 1 = 0 then 13 else 14)) 1 (by split <;> decide) rfl (by split <;> decide +kernel) (by split <;> decide +kernel) (bL_lb _ (by split <;> decide)) g1 (by omega) hf (by omega) (Nat.le_of_ble_eq_true rfl) dL_bakery_292 (fun M2 v2 cap2 g2 _ => ?_)
  show TO X A _ _ (nk + 2) (nz + 8000) 295 _ (.ref b :: [])
  refine tw_iload C 0 dL_bakery_295 rfl ?_
  refine tw_iconst C (2) dL_bakery_297 rfl ?_
  refine tw_iand C dL_bakery_298 ?_
  suffices hj : TO X A Q M2 (nk + 2) (nz + 8000) 309 [(6, iV (cl xs n (fr + 6 + k))), (0, .ref sr), (1, iV (fr : Int)), (2, .ref b), (5, iV (k : Int))] (.ref ((xXE X).2.1.2.2 5 (if zand (cl xs n (fr + 6 + k)) 2 = 0 then 15 else 16)) :: .ref b :: []) by
    refine tw_if_ne C 307 zI_zand dL_bakery_299 rfl (fun hc => ?_) (fun hc => ?_)
    · rw [if_neg hc] at hj
      exact tw_ldcS C (List.mem_of_getElem? (i := 16) rfl) dL_bakery_307 hj
    · rw [if_pos hc] at hj
      exact tw_ldcS C (List.mem_of_getElem? (i := 15) rfl) dL_bakery_302 (tw_goto C 309 dL_bakery_304 rfl hj)
  refine tw_appS C (if zand (cl xs n (fr + 6 + k)) 2 = 0 then 15 else 16) (lb (if zand (cl xs n (fr + 6 + k)) 2 = 0 then 15 else 16)) 3 (by split <;> decide) rfl (by split <;> decide +kernel) (by split <;> decide +kernel) (bL_lb _ (by split <;> decide)) g2 (by omega) hf (by omega) (Nat.le_of_ble_eq_true rfl) dL_bakery_309 (fun M3 v3 cap3 g3 _ => ?_)
  show TO X A _ _ (nk + 3) (nz + 12000) 312 _ (.ref b :: [])
  refine tw_iload C 0 dL_bakery_312 rfl ?_
  refine tw_iconst C (2) dL_bakery_314 rfl ?_
  refine tw_ishr C dL_bakery_315 ?_
  refine tw_iconst C (1) dL_bakery_316 rfl ?_
  refine tw_bipush C (40) dL_bakery_317 rfl ?_
  refine tw_callS C (tGo_same C) (As := [iV (zshr (cl xs n (fr + 6 + k)) 2), iV 1, iV 40]) (tc_L_between _ _ _ _ _ (zshr (cl xs n (fr + 6 + k)) 2) 1 40 (by decide) (by decide)) mt_L_between st_L_between wd859 rfl ⟨by show 0 + 1 ≤ _; omega, by show 8 + (3 + 11) + 0 ≤ _; omega⟩ (by show _ + 0 ≤ _ ∧ _ + 0 ≤ _; omega) (rfl) (Nat.le_of_ble_eq_true rfl) dL_bakery_319 ?_
  rintro _ MQ ⟨rfl, hQ⟩
  have hQ := hQ.symm
  subst hQ
  show TO X A _ _ (nk + 3) (nz + 12000) 322 _ (iV _ :: .ref b :: [])
  refine tw_appI C (x := bw (zshr (cl xs n (fr + 6 + k)) 2) 1 40) (by have := (bw_le (x := (zshr (cl xs n (fr + 6 + k)) 2)) (show 1 ≤ 40 by decide)).2; omega) g3 (by omega) hf (by omega) (Nat.le_of_ble_eq_true rfl) dL_bakery_322 (fun M4 v4 cap4 g4 _ => ?_)
  show TO X A _ _ (nk + 4) (nz + 16000) 325 _ (.ref b :: [])
  refine tw_ldcS C (List.mem_of_getElem? (i := 17) rfl) dL_bakery_325 ?_
  refine tw_appS C (17) (lb (17)) 4 (by decide) rfl (by decide +kernel) (by decide +kernel) (bL_lb _ (by decide)) g4 (by omega) hf (by omega) (Nat.le_of_ble_eq_true rfl) dL_bakery_327 (fun M5 v5 cap5 g5 _ => ?_)
  show TO X A _ _ (nk + 5) (nz + 20000) 330 _ (.ref b :: [])
  refine tw_iload C 0 dL_bakery_330 rfl ?_
  refine tw_bipush C (8) dL_bakery_332 rfl ?_
  refine tw_ishr C dL_bakery_334 ?_
  refine tw_sipush C (200) dL_bakery_335 rfl ?_
  refine tw_sipush C (1400) dL_bakery_338 rfl ?_
  refine tw_callS C (tGo_same C) (As := [iV (zshr (cl xs n (fr + 6 + k)) 8), iV 200, iV 1400]) (tc_L_between _ _ _ _ _ (zshr (cl xs n (fr + 6 + k)) 8) 200 1400 (by decide) (by decide)) mt_L_between st_L_between wd859 rfl ⟨by show 0 + 1 ≤ _; omega, by show 8 + (3 + 11) + 0 ≤ _; omega⟩ (by show _ + 0 ≤ _ ∧ _ + 0 ≤ _; omega) (rfl) (Nat.le_of_ble_eq_true rfl) dL_bakery_341 ?_
  rintro _ MQ ⟨rfl, hQ⟩
  have hQ := hQ.symm
  subst hQ
  show TO X A _ _ (nk + 5) (nz + 20000) 344 _ (iV _ :: .ref b :: [])
  refine tw_appI C (x := bw (zshr (cl xs n (fr + 6 + k)) 8) 200 1400) (by have := (bw_le (x := (zshr (cl xs n (fr + 6 + k)) 8)) (show 200 ≤ 1400 by decide)).2; omega) g5 (by omega) hf (by omega) (Nat.le_of_ble_eq_true rfl) dL_bakery_344 (fun M6 v6 cap6 g6 _ => ?_)
  show TO X A _ _ (nk + 6) (nz + 24000) 347 _ (.ref b :: [])
  refine tw_ldcS C (List.mem_of_getElem? (i := 3) rfl) dL_bakery_347 ?_
  refine tw_appS C (3) (lb (3)) 1 (by decide) rfl (by decide +kernel) (by decide +kernel) (bL_lb _ (by decide)) g6 (by omega) hf (by omega) (Nat.le_of_ble_eq_true rfl) dL_bakery_349 (fun M7 v7 cap7 g7 _ => ?_)
  show TO X A _ _ (nk + 7) (nz + 28000) 352 _ (.ref b :: [])
  refine tw_pop C dL_bakery_352 rfl ?_
  refine tw_iinc C 4 _ dL_bakery_353 rfl rfl (by decide) rfl ?_
  refine tw_goto C 253 dL_bakery_356 rfl ?_
  refine tw_pick [2, 3, 4, 0] rfl ?_
  exact kk M7 v7 cap7 g7
/-- the law's text by its cells -/
def bT0 (c : Nat → Int) : List Int32 := [] ++ lb 0 ++ dec (bw (c 0) 1 2) ++ lb 1 ++ dT (c 1) ++ lb 2 ++ dT (c 2) ++ lb 3
def bT1 (c : Nat → Int) : List Int32 := bT0 c ++ lb 4 ++ dec (bw (c 3) 1 3) ++ lb 5 ++ dec (bw (zshr (c 3) 3) 20 240) ++ lb 6 ++ dec (bw (zshr (c 3) 12) 5 30) ++ lb 3 ++ lb 7 ++ lb 8 ++ dec (bw (c 4) 1 40) ++ lb 9 ++ dec (bw (zshr (c 4) 8) 1 40) ++ lb 10 ++ dec (bw (zshr (c 4) 16) 1 40) ++ lb 3 ++ lb 11 ++ dec (bw (c 5) 30 200) ++ lb 3
def bT (c : Nat → Int) : List Int32 := oT (oT (oT (oT (bT1 c) (c 6)) (c 7)) (c 8)) (c 9)
theorem tc_L_bakery (l : Launch) (E : xE) (A : Nat → Prop) (ss : tSs) (sr n : Nat) (xs : Nat → Int32) (hS : .inr (sr, n, xs) ∈ ss) (hn : n ≤ 260) (fr : Nat) (hfr : fr ≤ 20) : tMet l E yL_bakery cL_bakery 7 (some (.object "java/lang/String")) { frames := 9, cells := 110, slots := 392480, locals := 405 } [.ref sr, iV (fr : Int)] A ss tN (fun r M2 => ∃ a w, r = some (.ref a) ∧ sS E M2 a w (bT (fun j => cl xs n (fr + j))) 443) := by
  refine tMet.of (by decide) (Nat.le_of_ble_eq_true rfl) fun X hE hl hnm C => ?_
  subst hE
  refine tw_new C cls_J4 (fs := [.null, .int 0, .int 0, .int 0]) (fun j hj => by rcases (show j = 0 ∨ j = 1 ∨ j = 2 ∨ j = 3 by omega) with rfl | rfl | rfl | rfl <;> rfl) wd1098 wd1099 wd66 dL_bakery_0 (by show 0 + 1 ≤ 110; omega) (by show 0 + 4 ≤ 392480; omega) (fun b0 _ => ?_)
  refine tw_dup C dL_bakery_3 rfl ?_
  refine tw_new C cls_J4 (fs := [.null, .int 0, .int 0, .int 0]) (fun j hj => by rcases (show j = 0 ∨ j = 1 ∨ j = 2 ∨ j = 3 by omega) with rfl | rfl | rfl | rfl <;> rfl) wd1098 wd1099 wd66 dL_bakery_4 (by show 1 + 1 ≤ 110; omega) (by show 4 + 4 ≤ 392480; omega) (fun b hb => ?_)
  refine tw_dup C dL_bakery_7 rfl ?_
  refine tw_callI C (tGo_same C) (As := []) (tc_J4_init_da8c8 _ _ _ _ _ b tU_eq) mt_J4_init_da8c8 rfl im_J4_init_da8c8 wd1100 rfl ⟨(Nat.le_of_ble_eq_true rfl), (Nat.le_of_ble_eq_true rfl)⟩ (by show 2 + 1 ≤ 110 ∧ 8 + 16 ≤ 392480; omega) rfl (Nat.le_of_ble_eq_true rfl) dL_bakery_8 ?_
  rintro _ M0 ⟨rfl, v0, cap0, f0, k1, k2, k3, k4, k5⟩
  have h0 := sT_0 k1 k3 k4
  have p0 : ∀ q e, (tU tN b0 (.inr (12, [.null, .int 0, .int 0, .int 0]))) q = some e → M0 q = some e ∧ q ≠ b ∧ q ≠ v0 := fun q e hq => ⟨(k5 q e (hb q e hq) ((tU_ne (hb q e hq)).trans hq)).1, hb q e hq, (k5 q e (hb q e hq) ((tU_ne (hb q e hq)).trans hq)).2⟩
  clear k1 k2 k3 k4 k5 f0
  show TO X A _ _ 3 24 11 _ (.ref b :: .ref b0 :: .ref b0 :: [])
  refine tw_ldcS C (List.mem_of_getElem? (i := 0) rfl) dL_bakery_11 ?_
  refine tw_appS C 0 (lb 0) 7 (by decide) rfl (by decide +kernel) (by decide +kernel) (bL_lb _ (by decide)) h0 (Nat.le_of_ble_eq_true rfl) ⟨(Nat.le_of_ble_eq_true rfl), (Nat.le_of_ble_eq_true rfl)⟩ (by show 3 + 1 ≤ 110 ∧ 24 + 4000 ≤ 392480; omega) (Nat.le_of_ble_eq_true rfl) dL_bakery_13 (fun M1 v1 cap1 h1 g => ?_)
  have p1 := kp_step p0 g
  clear p0
  clear g h0
  show TO X A _ _ 4 4024 16 _ (.ref b :: .ref b0 :: .ref b0 :: [])
  refine tw_aload_n C 0 dL_bakery_16 rfl rfl ?_
  refine tw_iload_n C 1 dL_bakery_17 rfl rfl ?_
  refine tw_callS C (tGo_same C) (As := [.ref sr, iV ((fr : Nat) : Int)]) (tc_L_cell _ _ _ _ _ sr n xs hS hn (fr) (by omega)) mt_L_cell st_L_cell wd854 rfl ⟨(Nat.le_of_ble_eq_true rfl), (Nat.le_of_ble_eq_true rfl)⟩ (by show 4 + 0 ≤ 110 ∧ 4024 + 0 ≤ 392480; omega) (rfl) (Nat.le_of_ble_eq_true rfl) dL_bakery_18 ?_
  rintro _ MQ ⟨rfl, hQ⟩
  have hQ := hQ.symm
  subst hQ
  show TO X A _ _ 4 4024 21 _ (iV (cl xs n (fr)) :: .ref b :: .ref b0 :: .ref b0 :: [])
  refine tw_iconst C (1) dL_bakery_21 rfl ?_
  refine tw_iconst C (2) dL_bakery_22 rfl ?_
  refine tw_callS C (tGo_same C) (As := [iV (cl xs n fr), iV 1, iV 2]) (tc_L_between _ _ _ _ _ (cl xs n fr) 1 2 (by decide) (by decide)) mt_L_between st_L_between wd859 rfl ⟨(Nat.le_of_ble_eq_true rfl), (Nat.le_of_ble_eq_true rfl)⟩ (by show 4 + 0 ≤ 110 ∧ 4024 + 0 ≤ 392480; omega) (rfl) (Nat.le_of_ble_eq_true rfl) dL_bakery_23 ?_
  rintro _ MQ ⟨rfl, hQ⟩
  have hQ := hQ.symm
  subst hQ
  show TO X A _ _ 4 4024 26 _ (iV _ :: .ref b :: .ref b0 :: .ref b0 :: [])
  refine tw_appI C (x := bw (cl xs n fr) 1 2) (by have := (bw_le (x := (cl xs n fr)) (show 1 ≤ 2 by decide)).2; omega) h1 (Nat.le_of_ble_eq_true rfl) ⟨(Nat.le_of_ble_eq_true rfl), (Nat.le_of_ble_eq_true rfl)⟩ (by show 4 + 1 ≤ 110 ∧ 4024 + 4000 ≤ 392480; omega) (Nat.le_of_ble_eq_true rfl) dL_bakery_26 (fun M2 v2 cap2 h2 g => ?_)
  have p2 := kp_step p1 g
  clear p1
  clear g h1
  show TO X A _ _ 5 8024 29 _ (.ref b :: .ref b0 :: .ref b0 :: [])
  refine tw_ldcS C (List.mem_of_getElem? (i := 1) rfl) dL_bakery_29 ?_
  refine tw_appS C 1 (lb 1) 8 (by decide) rfl (by decide +kernel) (by decide +kernel) (bL_lb _ (by decide)) h2 (Nat.le_of_ble_eq_true rfl) ⟨(Nat.le_of_ble_eq_true rfl), (Nat.le_of_ble_eq_true rfl)⟩ (by show 5 + 1 ≤ 110 ∧ 8024 + 4000 ≤ 392480; omega) (Nat.le_of_ble_eq_true rfl) dL_bakery_31 (fun M3 v3 cap3 h3 g => ?_)
  have p3 := kp_step p2 g
  clear p2
  clear g h2
  show TO X A _ _ 6 12024 34 _ (.ref b :: .ref b0 :: .ref b0 :: [])
  refine tw_aload_n C 0 dL_bakery_34 rfl rfl ?_
  refine tw_iload_n C 1 dL_bakery_35 rfl rfl ?_
  refine tw_iconst C (1) dL_bakery_36 rfl ?_
  refine tw_iadd C dL_bakery_37 ?_
  refine tw_callS C (tGo_same C) (As := [.ref sr, iV ((fr + 1 : Nat) : Int)]) (tc_L_cell _ _ _ _ _ sr n xs hS hn (fr + 1) (by omega)) mt_L_cell st_L_cell wd854 rfl ⟨(Nat.le_of_ble_eq_true rfl), (Nat.le_of_ble_eq_true rfl)⟩ (by show 6 + 0 ≤ 110 ∧ 12024 + 0 ≤ 392480; omega) (rfl) (Nat.le_of_ble_eq_true rfl) dL_bakery_38 ?_
  rintro _ MQ ⟨rfl, hQ⟩
  have hQ := hQ.symm
  subst hQ
  show TO X A _ _ 6 12024 41 _ (iV (cl xs n (fr + 1)) :: .ref b :: .ref b0 :: .ref b0 :: [])
  refine tw_callS C (tGo_same C) (As := [iV (cl xs n (fr + 1))]) (tc_L_dough _ _ _ _ _ (cl xs n (fr + 1))) mt_L_dough st_L_dough wd1250 rfl ⟨(Nat.le_of_ble_eq_true rfl), (Nat.le_of_ble_eq_true rfl)⟩ (by show 6 + 24 ≤ 110 ∧ 12024 + 84024 ≤ 392480; omega) (rfl) (Nat.le_of_ble_eq_true rfl) dL_bakery_41 ?_
  rintro _ MD ⟨a, w, rfl, hd, kd⟩
  obtain ⟨hh, hvw⟩ := sT_keep h3 kd
  have pd := kp_dough p3 kd
  clear h3 p3 kd
  show TO X A _ _ 30 96048 44 _ (.ref a :: .ref b :: .ref b0 :: .ref b0 :: [])
  refine tw_appM C hd hvw hh (Nat.le_of_ble_eq_true rfl) ⟨(Nat.le_of_ble_eq_true rfl), (Nat.le_of_ble_eq_true rfl)⟩ (by show 30 + 1 ≤ 110 ∧ 96048 + 4000 ≤ 392480; omega) (Nat.le_of_ble_eq_true rfl) dL_bakery_44 (fun M4 v4 cap4 h4 g => ?_)
  have p4 : ∀ q e, (tU tN b0 (.inr (12, [.null, .int 0, .int 0, .int 0]))) q = some e → M4 q = some e ∧ q ≠ b ∧ q ≠ v4 := fun q e hq => by
    obtain ⟨x1, x2, x3, x4, x5⟩ := pd q e hq
    obtain ⟨y1, y2⟩ := g q e x2 x3 x4 x5 x1
    exact ⟨y1, x2, y2⟩
  clear g hh hvw pd hd
  show TO X A _ _ 31 100048 47 _ (.ref b :: .ref b0 :: .ref b0 :: [])
  refine tw_ldcS C (List.mem_of_getElem? (i := 2) rfl) dL_bakery_47 ?_
  refine tw_appS C 2 (lb 2) 8 (by decide) rfl (by decide +kernel) (by decide +kernel) (bL_lb _ (by decide)) h4 (Nat.le_of_ble_eq_true rfl) ⟨(Nat.le_of_ble_eq_true rfl), (Nat.le_of_ble_eq_true rfl)⟩ (by show 31 + 1 ≤ 110 ∧ 100048 + 4000 ≤ 392480; omega) (Nat.le_of_ble_eq_true rfl) dL_bakery_49 (fun M5 v5 cap5 h5 g => ?_)
  have p5 := kp_step p4 g
  clear p4
  clear g h4
  show TO X A _ _ 32 104048 52 _ (.ref b :: .ref b0 :: .ref b0 :: [])
  refine tw_aload_n C 0 dL_bakery_52 rfl rfl ?_
  refine tw_iload_n C 1 dL_bakery_53 rfl rfl ?_
  refine tw_iconst C (2) dL_bakery_54 rfl ?_
  refine tw_iadd C dL_bakery_55 ?_
  refine tw_callS C (tGo_same C) (As := [.ref sr, iV ((fr + 2 : Nat) : Int)]) (tc_L_cell _ _ _ _ _ sr n xs hS hn (fr + 2) (by omega)) mt_L_cell st_L_cell wd854 rfl ⟨(Nat.le_of_ble_eq_true rfl), (Nat.le_of_ble_eq_true rfl)⟩ (by show 32 + 0 ≤ 110 ∧ 104048 + 0 ≤ 392480; omega) (rfl) (Nat.le_of_ble_eq_true rfl) dL_bakery_56 ?_
  rintro _ MQ ⟨rfl, hQ⟩
  have hQ := hQ.symm
  subst hQ
  show TO X A _ _ 32 104048 59 _ (iV (cl xs n (fr + 2)) :: .ref b :: .ref b0 :: .ref b0 :: [])
  refine tw_callS C (tGo_same C) (As := [iV (cl xs n (fr + 2))]) (tc_L_dough _ _ _ _ _ (cl xs n (fr + 2))) mt_L_dough st_L_dough wd1250 rfl ⟨(Nat.le_of_ble_eq_true rfl), (Nat.le_of_ble_eq_true rfl)⟩ (by show 32 + 24 ≤ 110 ∧ 104048 + 84024 ≤ 392480; omega) (rfl) (Nat.le_of_ble_eq_true rfl) dL_bakery_59 ?_
  rintro _ MD ⟨a, w, rfl, hd, kd⟩
  obtain ⟨hh, hvw⟩ := sT_keep h5 kd
  have pd := kp_dough p5 kd
  clear h5 p5 kd
  show TO X A _ _ 56 188072 62 _ (.ref a :: .ref b :: .ref b0 :: .ref b0 :: [])
  refine tw_appM C hd hvw hh (Nat.le_of_ble_eq_true rfl) ⟨(Nat.le_of_ble_eq_true rfl), (Nat.le_of_ble_eq_true rfl)⟩ (by show 56 + 1 ≤ 110 ∧ 188072 + 4000 ≤ 392480; omega) (Nat.le_of_ble_eq_true rfl) dL_bakery_62 (fun M6 v6 cap6 h6 g => ?_)
  have p6 : ∀ q e, (tU tN b0 (.inr (12, [.null, .int 0, .int 0, .int 0]))) q = some e → M6 q = some e ∧ q ≠ b ∧ q ≠ v6 := fun q e hq => by
    obtain ⟨x1, x2, x3, x4, x5⟩ := pd q e hq
    obtain ⟨y1, y2⟩ := g q e x2 x3 x4 x5 x1
    exact ⟨y1, x2, y2⟩
  clear g hh hvw pd hd
  show TO X A _ _ 57 192072 65 _ (.ref b :: .ref b0 :: .ref b0 :: [])
  refine tw_ldcS C (List.mem_of_getElem? (i := 3) rfl) dL_bakery_65 ?_
  refine tw_appS C 3 (lb 3) 1 (by decide) rfl (by decide +kernel) (by decide +kernel) (bL_lb _ (by decide)) h6 (Nat.le_of_ble_eq_true rfl) ⟨(Nat.le_of_ble_eq_true rfl), (Nat.le_of_ble_eq_true rfl)⟩ (by show 57 + 1 ≤ 110 ∧ 192072 + 4000 ≤ 392480; omega) (Nat.le_of_ble_eq_true rfl) dL_bakery_67 (fun M7 v7 cap7 h7 g => ?_)
  have p7 := kp_step p6 g
  clear p6
  clear g h6
  show TO X A _ _ 58 196072 70 _ (.ref b :: .ref b0 :: .ref b0 :: [])
  obtain ⟨f, j1, j2, j3, j4, j5, j6⟩ := h7
  refine tw_callV C (tGo_same C) (As := []) (tc_J4_toString_0e30d _ _ _ _ _ b v7 _ cap7 f j1 j4 j2 j3) mt_J4_toString_0e30d vr_J4_toString_0e30d wd1263 (tRc_M C cls_J4 j1.1) rfl ⟨(Nat.le_of_ble_eq_true rfl), (Nat.le_of_ble_eq_true rfl)⟩ (by show 58 + 2 ≤ 110 ∧ 196072 + 4004 ≤ 392480; omega) rfl (Nat.le_of_ble_eq_true rfl) dL_bakery_70 ?_
  rintro _ MS ⟨a, w, f2, rfl, i1, i2, i3, i4, i5⟩
  have hb0 := i5 b0 _ (p7 b0 _ tU_eq).1
  show TO X A _ _ 60 200076 73 _ (.ref a :: .ref b0 :: .ref b0 :: [])
  refine tw_callI C (tGo_drop C i1 i2) (As := [.ref a]) (tc_J4_init_a7421 _ _ _ _ _ b0 ((if_neg (fun c => c.elim hb0.2.1 hb0.2.2)).trans hb0.1) a w _ f2 (List.mem_singleton.mpr rfl) i3 (by have : _ ≤ (236 : Nat) := j6; omega)) mt_J4_init_a7421 rfl im_J4_init_a7421 wd1322 rfl ⟨(Nat.le_of_ble_eq_true rfl), (Nat.le_of_ble_eq_true rfl)⟩ (by show 60 + 2 ≤ 110 ∧ 200076 + 4400 ≤ 392480; omega) rfl (Nat.le_of_ble_eq_true rfl) dL_bakery_73 ?_
  rintro _ MB ⟨rfl, vb, capb, fb, k1, k2, k3, k4, k5, k6⟩
  have h100 : sT (xXE X) MB b0 vb (bT0 (fun j => cl xs n (fr + j))) capb 236 := ⟨fb, k1, k2, k3, k4, fun k hk => (k5 k hk).trans ((i4 k hk).trans (j5 k hk)), j6⟩
  clear k1 k2 k3 k4 k5 k6 i1 i2 i3 i4 i5 hb0 j1 j2 j3 j4 j5 j6 f f2
  show TO X A _ _ 62 204476 76 _ (.ref b0 :: [])
  refine tw_astore_n C dL_bakery_76 rfl (by decide) rfl ?_
  refine tw_aload_n C 1 dL_bakery_77 rfl rfl ?_
  refine tw_iload_n C 2 dL_bakery_78 rfl rfl ?_
  refine tw_iconst C (3) dL_bakery_79 rfl ?_
  refine tw_iadd C dL_bakery_80 ?_
  refine tw_callS C (tGo_same C) (As := [.ref sr, iV ((fr + 3 : Nat) : Int)]) (tc_L_cell _ _ _ _ _ sr n xs hS hn (fr + 3) (by omega)) mt_L_cell st_L_cell wd854 rfl ⟨(Nat.le_of_ble_eq_true rfl), (Nat.le_of_ble_eq_true rfl)⟩ (by show 62 + 0 ≤ 110 ∧ 204476 + 0 ≤ 392480; omega) (rfl) (Nat.le_of_ble_eq_true rfl) dL_bakery_81 ?_
  rintro _ MQ ⟨rfl, hQ⟩
  have hQ := hQ.symm
  subst hQ
  show TO X A _ _ 62 204476 84 _ (iV (cl xs n (fr + 3)) :: [])
  refine tw_istore_n C dL_bakery_84 rfl (by decide) rfl ?_
  refine tw_aload_n C 1 dL_bakery_85 rfl rfl ?_
  refine tw_ldcS C (List.mem_of_getElem? (i := 4) rfl) dL_bakery_86 ?_
  refine tw_appS C 4 (lb 4) 13 (by decide) rfl (by decide +kernel) (by decide +kernel) (bL_lb _ (by decide)) h100 (Nat.le_of_ble_eq_true rfl) ⟨(Nat.le_of_ble_eq_true rfl), (Nat.le_of_ble_eq_true rfl)⟩ (by show 62 + 1 ≤ 110 ∧ 204476 + 4000 ≤ 392480; omega) (Nat.le_of_ble_eq_true rfl) dL_bakery_88 (fun M101 v101 cap101 h101 g => ?_)
  clear g h100
  show TO X A _ _ 63 208476 91 _ (.ref b0 :: [])
  refine tw_iload_n C 0 dL_bakery_91 rfl rfl ?_
  refine tw_iconst C (1) dL_bakery_92 rfl ?_
  refine tw_iconst C (3) dL_bakery_93 rfl ?_
  refine tw_callS C (tGo_same C) (As := [iV (cl xs n (fr + 3)), iV 1, iV 3]) (tc_L_between _ _ _ _ _ (cl xs n (fr + 3)) 1 3 (by decide) (by decide)) mt_L_between st_L_between wd859 rfl ⟨(Nat.le_of_ble_eq_true rfl), (Nat.le_of_ble_eq_true rfl)⟩ (by show 63 + 0 ≤ 110 ∧ 208476 + 0 ≤ 392480; omega) (rfl) (Nat.le_of_ble_eq_true rfl) dL_bakery_94 ?_
  rintro _ MQ ⟨rfl, hQ⟩
  have hQ := hQ.symm
  subst hQ
  show TO X A _ _ 63 208476 97 _ (iV _ :: .ref b0 :: [])
  refine tw_appI C (x := bw (cl xs n (fr + 3)) 1 3) (by have := (bw_le (x := (cl xs n (fr + 3))) (show 1 ≤ 3 by decide)).2; omega) h101 (Nat.le_of_ble_eq_true rfl) ⟨(Nat.le_of_ble_eq_true rfl), (Nat.le_of_ble_eq_true rfl)⟩ (by show 63 + 1 ≤ 110 ∧ 208476 + 4000 ≤ 392480; omega) (Nat.le_of_ble_eq_true rfl) dL_bakery_97 (fun M102 v102 cap102 h102 g => ?_)
  clear g h101
  show TO X A _ _ 64 212476 100 _ (.ref b0 :: [])
  refine tw_ldcS C (List.mem_of_getElem? (i := 5) rfl) dL_bakery_100 ?_
  refine tw_appS C 5 (lb 5) 6 (by decide) rfl (by decide +kernel) (by decide +kernel) (bL_lb _ (by decide)) h102 (Nat.le_of_ble_eq_true rfl) ⟨(Nat.le_of_ble_eq_true rfl), (Nat.le_of_ble_eq_true rfl)⟩ (by show 64 + 1 ≤ 110 ∧ 212476 + 4000 ≤ 392480; omega) (Nat.le_of_ble_eq_true rfl) dL_bakery_102 (fun M103 v103 cap103 h103 g => ?_)
  clear g h102
  show TO X A _ _ 65 216476 105 _ (.ref b0 :: [])
  refine tw_iload_n C 0 dL_bakery_105 rfl rfl ?_
  refine tw_iconst C (3) dL_bakery_106 rfl ?_
  refine tw_ishr C dL_bakery_107 ?_
  refine tw_bipush C (20) dL_bakery_108 rfl ?_
  refine tw_sipush C (240) dL_bakery_110 rfl ?_
  refine tw_callS C (tGo_same C) (As := [iV (zshr (cl xs n (fr + 3)) 3), iV 20, iV 240]) (tc_L_between _ _ _ _ _ (zshr (cl xs n (fr + 3)) 3) 20 240 (by decide) (by decide)) mt_L_between st_L_between wd859 rfl ⟨(Nat.le_of_ble_eq_true rfl), (Nat.le_of_ble_eq_true rfl)⟩ (by show 65 + 0 ≤ 110 ∧ 216476 + 0 ≤ 392480; omega) (rfl) (Nat.le_of_ble_eq_true rfl) dL_bakery_113 ?_
  rintro _ MQ ⟨rfl, hQ⟩
  have hQ := hQ.symm
  subst hQ
  show TO X A _ _ 65 216476 116 _ (iV _ :: .ref b0 :: [])
  refine tw_appI C (x := bw (zshr (cl xs n (fr + 3)) 3) 20 240) (by have := (bw_le (x := (zshr (cl xs n (fr + 3)) 3)) (show 20 ≤ 240 by decide)).2; omega) h103 (Nat.le_of_ble_eq_true rfl) ⟨(Nat.le_of_ble_eq_true rfl), (Nat.le_of_ble_eq_true rfl)⟩ (by show 65 + 1 ≤ 110 ∧ 216476 + 4000 ≤ 392480; omega) (Nat.le_of_ble_eq_true rfl) dL_bakery_116 (fun M104 v104 cap104 h104 g => ?_)
  clear g h103
  show TO X A _ _ 66 220476 119 _ (.ref b0 :: [])
  refine tw_ldcS C (List.mem_of_getElem? (i := 6) rfl) dL_bakery_119 ?_
  refine tw_appS C 6 (lb 6) 6 (by decide) rfl (by decide +kernel) (by decide +kernel) (bL_lb _ (by decide)) h104 (Nat.le_of_ble_eq_true rfl) ⟨(Nat.le_of_ble_eq_true rfl), (Nat.le_of_ble_eq_true rfl)⟩ (by show 66 + 1 ≤ 110 ∧ 220476 + 4000 ≤ 392480; omega) (Nat.le_of_ble_eq_true rfl) dL_bakery_121 (fun M105 v105 cap105 h105 g => ?_)
  clear g h104
  show TO X A _ _ 67 224476 124 _ (.ref b0 :: [])
  refine tw_iload_n C 0 dL_bakery_124 rfl rfl ?_
  refine tw_bipush C (12) dL_bakery_125 rfl ?_
  refine tw_ishr C dL_bakery_127 ?_
  refine tw_iconst C (5) dL_bakery_128 rfl ?_
  refine tw_bipush C (30) dL_bakery_129 rfl ?_
  refine tw_callS C (tGo_same C) (As := [iV (zshr (cl xs n (fr + 3)) 12), iV 5, iV 30]) (tc_L_between _ _ _ _ _ (zshr (cl xs n (fr + 3)) 12) 5 30 (by decide) (by decide)) mt_L_between st_L_between wd859 rfl ⟨(Nat.le_of_ble_eq_true rfl), (Nat.le_of_ble_eq_true rfl)⟩ (by show 67 + 0 ≤ 110 ∧ 224476 + 0 ≤ 392480; omega) (rfl) (Nat.le_of_ble_eq_true rfl) dL_bakery_131 ?_
  rintro _ MQ ⟨rfl, hQ⟩
  have hQ := hQ.symm
  subst hQ
  show TO X A _ _ 67 224476 134 _ (iV _ :: .ref b0 :: [])
  refine tw_appI C (x := bw (zshr (cl xs n (fr + 3)) 12) 5 30) (by have := (bw_le (x := (zshr (cl xs n (fr + 3)) 12)) (show 5 ≤ 30 by decide)).2; omega) h105 (Nat.le_of_ble_eq_true rfl) ⟨(Nat.le_of_ble_eq_true rfl), (Nat.le_of_ble_eq_true rfl)⟩ (by show 67 + 1 ≤ 110 ∧ 224476 + 4000 ≤ 392480; omega) (Nat.le_of_ble_eq_true rfl) dL_bakery_134 (fun M106 v106 cap106 h106 g => ?_)
  clear g h105
  show TO X A _ _ 68 228476 137 _ (.ref b0 :: [])
  refine tw_ldcS C (List.mem_of_getElem? (i := 3) rfl) dL_bakery_137 ?_
  refine tw_appS C 3 (lb 3) 1 (by decide) rfl (by decide +kernel) (by decide +kernel) (bL_lb _ (by decide)) h106 (Nat.le_of_ble_eq_true rfl) ⟨(Nat.le_of_ble_eq_true rfl), (Nat.le_of_ble_eq_true rfl)⟩ (by show 68 + 1 ≤ 110 ∧ 228476 + 4000 ≤ 392480; omega) (Nat.le_of_ble_eq_true rfl) dL_bakery_139 (fun M107 v107 cap107 h107 g => ?_)
  clear g h106
  show TO X A _ _ 69 232476 142 _ (.ref b0 :: [])
  refine tw_pop C dL_bakery_142 rfl ?_
  refine tw_aload_n C 1 dL_bakery_143 rfl rfl ?_
  refine tw_ldcS C (List.mem_of_getElem? (i := 7) rfl) dL_bakery_144 ?_
  refine tw_appS C 7 (lb 7) 14 (by decide) rfl (by decide +kernel) (by decide +kernel) (bL_lb _ (by decide)) h107 (Nat.le_of_ble_eq_true rfl) ⟨(Nat.le_of_ble_eq_true rfl), (Nat.le_of_ble_eq_true rfl)⟩ (by show 69 + 1 ≤ 110 ∧ 232476 + 4000 ≤ 392480; omega) (Nat.le_of_ble_eq_true rfl) dL_bakery_146 (fun M108 v108 cap108 h108 g => ?_)
  clear g h107
  show TO X A _ _ 70 236476 149 _ (.ref b0 :: [])
  refine tw_pop C dL_bakery_149 rfl ?_
  refine tw_aload_n C 2 dL_bakery_150 rfl rfl ?_
  refine tw_iload_n C 3 dL_bakery_151 rfl rfl ?_
  refine tw_iconst C (4) dL_bakery_152 rfl ?_
  refine tw_iadd C dL_bakery_153 ?_
  refine tw_callS C (tGo_same C) (As := [.ref sr, iV ((fr + 4 : Nat) : Int)]) (tc_L_cell _ _ _ _ _ sr n xs hS hn (fr + 4) (by omega)) mt_L_cell st_L_cell wd854 rfl ⟨(Nat.le_of_ble_eq_true rfl), (Nat.le_of_ble_eq_true rfl)⟩ (by show 70 + 0 ≤ 110 ∧ 236476 + 0 ≤ 392480; omega) (rfl) (Nat.le_of_ble_eq_true rfl) dL_bakery_154 ?_
  rintro _ MQ ⟨rfl, hQ⟩
  have hQ := hQ.symm
  subst hQ
  show TO X A _ _ 70 236476 157 _ (iV (cl xs n (fr + 4)) :: [])
  refine tw_istore C dL_bakery_157 (by decide) rfl ?_
  refine tw_aload_n C 2 dL_bakery_159 rfl rfl ?_
  refine tw_ldcS C (List.mem_of_getElem? (i := 8) rfl) dL_bakery_160 ?_
  refine tw_appS C 8 (lb 8) 14 (by decide) rfl (by decide +kernel) (by decide +kernel) (bL_lb _ (by decide)) h108 (Nat.le_of_ble_eq_true rfl) ⟨(Nat.le_of_ble_eq_true rfl), (Nat.le_of_ble_eq_true rfl)⟩ (by show 70 + 1 ≤ 110 ∧ 236476 + 4000 ≤ 392480; omega) (Nat.le_of_ble_eq_true rfl) dL_bakery_162 (fun M109 v109 cap109 h109 g => ?_)
  clear g h108
  show TO X A _ _ 71 240476 165 _ (.ref b0 :: [])
  refine tw_iload C 0 dL_bakery_165 rfl ?_
  refine tw_iconst C (1) dL_bakery_167 rfl ?_
  refine tw_bipush C (40) dL_bakery_168 rfl ?_
  refine tw_callS C (tGo_same C) (As := [iV (cl xs n (fr + 4)), iV 1, iV 40]) (tc_L_between _ _ _ _ _ (cl xs n (fr + 4)) 1 40 (by decide) (by decide)) mt_L_between st_L_between wd859 rfl ⟨(Nat.le_of_ble_eq_true rfl), (Nat.le_of_ble_eq_true rfl)⟩ (by show 71 + 0 ≤ 110 ∧ 240476 + 0 ≤ 392480; omega) (rfl) (Nat.le_of_ble_eq_true rfl) dL_bakery_170 ?_
  rintro _ MQ ⟨rfl, hQ⟩
  have hQ := hQ.symm
  subst hQ
  show TO X A _ _ 71 240476 173 _ (iV _ :: .ref b0 :: [])
  refine tw_appI C (x := bw (cl xs n (fr + 4)) 1 40) (by have := (bw_le (x := (cl xs n (fr + 4))) (show 1 ≤ 40 by decide)).2; omega) h109 (Nat.le_of_ble_eq_true rfl) ⟨(Nat.le_of_ble_eq_true rfl), (Nat.le_of_ble_eq_true rfl)⟩ (by show 71 + 1 ≤ 110 ∧ 240476 + 4000 ≤ 392480; omega) (Nat.le_of_ble_eq_true rfl) dL_bakery_173 (fun M110 v110 cap110 h110 g => ?_)
  clear g h109
  show TO X A _ _ 72 244476 176 _ (.ref b0 :: [])
  refine tw_ldcS C (List.mem_of_getElem? (i := 9) rfl) dL_bakery_176 ?_
  refine tw_appS C 9 (lb 9) 15 (by decide) rfl (by decide +kernel) (by decide +kernel) (bL_lb _ (by decide)) h110 (Nat.le_of_ble_eq_true rfl) ⟨(Nat.le_of_ble_eq_true rfl), (Nat.le_of_ble_eq_true rfl)⟩ (by show 72 + 1 ≤ 110 ∧ 244476 + 4000 ≤ 392480; omega) (Nat.le_of_ble_eq_true rfl) dL_bakery_178 (fun M111 v111 cap111 h111 g => ?_)
  clear g h110
  show TO X A _ _ 73 248476 181 _ (.ref b0 :: [])
  refine tw_iload C 0 dL_bakery_181 rfl ?_
  refine tw_bipush C (8) dL_bakery_183 rfl ?_
  refine tw_ishr C dL_bakery_185 ?_
  refine tw_iconst C (1) dL_bakery_186 rfl ?_
  refine tw_bipush C (40) dL_bakery_187 rfl ?_
  refine tw_callS C (tGo_same C) (As := [iV (zshr (cl xs n (fr + 4)) 8), iV 1, iV 40]) (tc_L_between _ _ _ _ _ (zshr (cl xs n (fr + 4)) 8) 1 40 (by decide) (by decide)) mt_L_between st_L_between wd859 rfl ⟨(Nat.le_of_ble_eq_true rfl), (Nat.le_of_ble_eq_true rfl)⟩ (by show 73 + 0 ≤ 110 ∧ 248476 + 0 ≤ 392480; omega) (rfl) (Nat.le_of_ble_eq_true rfl) dL_bakery_189 ?_
  rintro _ MQ ⟨rfl, hQ⟩
  have hQ := hQ.symm
  subst hQ
  show TO X A _ _ 73 248476 192 _ (iV _ :: .ref b0 :: [])
  refine tw_appI C (x := bw (zshr (cl xs n (fr + 4)) 8) 1 40) (by have := (bw_le (x := (zshr (cl xs n (fr + 4)) 8)) (show 1 ≤ 40 by decide)).2; omega) h111 (Nat.le_of_ble_eq_true rfl) ⟨(Nat.le_of_ble_eq_true rfl), (Nat.le_of_ble_eq_true rfl)⟩ (by show 73 + 1 ≤ 110 ∧ 248476 + 4000 ≤ 392480; omega) (Nat.le_of_ble_eq_true rfl) dL_bakery_192 (fun M112 v112 cap112 h112 g => ?_)
  clear g h111
  show TO X A _ _ 74 252476 195 _ (.ref b0 :: [])
  refine tw_ldcS C (List.mem_of_getElem? (i := 10) rfl) dL_bakery_195 ?_
  refine tw_appS C 10 (lb 10) 12 (by decide) rfl (by decide +kernel) (by decide +kernel) (bL_lb _ (by decide)) h112 (Nat.le_of_ble_eq_true rfl) ⟨(Nat.le_of_ble_eq_true rfl), (Nat.le_of_ble_eq_true rfl)⟩ (by show 74 + 1 ≤ 110 ∧ 252476 + 4000 ≤ 392480; omega) (Nat.le_of_ble_eq_true rfl) dL_bakery_197 (fun M113 v113 cap113 h113 g => ?_)
  clear g h112
  show TO X A _ _ 75 256476 200 _ (.ref b0 :: [])
  refine tw_iload C 0 dL_bakery_200 rfl ?_
  refine tw_bipush C (16) dL_bakery_202 rfl ?_
  refine tw_ishr C dL_bakery_204 ?_
  refine tw_iconst C (1) dL_bakery_205 rfl ?_
  refine tw_bipush C (40) dL_bakery_206 rfl ?_
  refine tw_callS C (tGo_same C) (As := [iV (zshr (cl xs n (fr + 4)) 16), iV 1, iV 40]) (tc_L_between _ _ _ _ _ (zshr (cl xs n (fr + 4)) 16) 1 40 (by decide) (by decide)) mt_L_between st_L_between wd859 rfl ⟨(Nat.le_of_ble_eq_true rfl), (Nat.le_of_ble_eq_true rfl)⟩ (by show 75 + 0 ≤ 110 ∧ 256476 + 0 ≤ 392480; omega) (rfl) (Nat.le_of_ble_eq_true rfl) dL_bakery_208 ?_
  rintro _ MQ ⟨rfl, hQ⟩
  have hQ := hQ.symm
  subst hQ
  show TO X A _ _ 75 256476 211 _ (iV _ :: .ref b0 :: [])
  refine tw_appI C (x := bw (zshr (cl xs n (fr + 4)) 16) 1 40) (by have := (bw_le (x := (zshr (cl xs n (fr + 4)) 16)) (show 1 ≤ 40 by decide)).2; omega) h113 (Nat.le_of_ble_eq_true rfl) ⟨(Nat.le_of_ble_eq_true rfl), (Nat.le_of_ble_eq_true rfl)⟩ (by show 75 + 1 ≤ 110 ∧ 256476 + 4000 ≤ 392480; omega) (Nat.le_of_ble_eq_true rfl) dL_bakery_211 (fun M114 v114 cap114 h114 g => ?_)
  clear g h113
  show TO X A _ _ 76 260476 214 _ (.ref b0 :: [])
  refine tw_ldcS C (List.mem_of_getElem? (i := 3) rfl) dL_bakery_214 ?_
  refine tw_appS C 3 (lb 3) 1 (by decide) rfl (by decide +kernel) (by decide +kernel) (bL_lb _ (by decide)) h114 (Nat.le_of_ble_eq_true rfl) ⟨(Nat.le_of_ble_eq_true rfl), (Nat.le_of_ble_eq_true rfl)⟩ (by show 76 + 1 ≤ 110 ∧ 260476 + 4000 ≤ 392480; omega) (Nat.le_of_ble_eq_true rfl) dL_bakery_216 (fun M115 v115 cap115 h115 g => ?_)
  clear g h114
  show TO X A _ _ 77 264476 219 _ (.ref b0 :: [])
  refine tw_pop C dL_bakery_219 rfl ?_
  refine tw_aload_n C 2 dL_bakery_220 rfl rfl ?_
  refine tw_ldcS C (List.mem_of_getElem? (i := 11) rfl) dL_bakery_221 ?_
  refine tw_appS C 11 (lb 11) 4 (by decide) rfl (by decide +kernel) (by decide +kernel) (bL_lb _ (by decide)) h115 (Nat.le_of_ble_eq_true rfl) ⟨(Nat.le_of_ble_eq_true rfl), (Nat.le_of_ble_eq_true rfl)⟩ (by show 77 + 1 ≤ 110 ∧ 264476 + 4000 ≤ 392480; omega) (Nat.le_of_ble_eq_true rfl) dL_bakery_223 (fun M116 v116 cap116 h116 g => ?_)
  clear g h115
  show TO X A _ _ 78 268476 226 _ (.ref b0 :: [])
  refine tw_aload_n C 3 dL_bakery_226 rfl rfl ?_
  refine tw_iload_n C 4 dL_bakery_227 rfl rfl ?_
  refine tw_iconst C (5) dL_bakery_228 rfl ?_
  refine tw_iadd C dL_bakery_229 ?_
  refine tw_callS C (tGo_same C) (As := [.ref sr, iV ((fr + 5 : Nat) : Int)]) (tc_L_cell _ _ _ _ _ sr n xs hS hn (fr + 5) (by omega)) mt_L_cell st_L_cell wd854 rfl ⟨(Nat.le_of_ble_eq_true rfl), (Nat.le_of_ble_eq_true rfl)⟩ (by show 78 + 0 ≤ 110 ∧ 268476 + 0 ≤ 392480; omega) (rfl) (Nat.le_of_ble_eq_true rfl) dL_bakery_230 ?_
  rintro _ MQ ⟨rfl, hQ⟩
  have hQ := hQ.symm
  subst hQ
  show TO X A _ _ 78 268476 233 _ (iV (cl xs n (fr + 5)) :: .ref b0 :: [])
  refine tw_bipush C (30) dL_bakery_233 rfl ?_
  refine tw_sipush C (200) dL_bakery_235 rfl ?_
  refine tw_callS C (tGo_same C) (As := [iV (cl xs n (fr + 5)), iV 30, iV 200]) (tc_L_between _ _ _ _ _ (cl xs n (fr + 5)) 30 200 (by decide) (by decide)) mt_L_between st_L_between wd859 rfl ⟨(Nat.le_of_ble_eq_true rfl), (Nat.le_of_ble_eq_true rfl)⟩ (by show 78 + 0 ≤ 110 ∧ 268476 + 0 ≤ 392480; omega) (rfl) (Nat.le_of_ble_eq_true rfl) dL_bakery_238 ?_
  rintro _ MQ ⟨rfl, hQ⟩
  have hQ := hQ.symm
  subst hQ
  show TO X A _ _ 78 268476 241 _ (iV _ :: .ref b0 :: [])
  refine tw_appI C (x := bw (cl xs n (fr + 5)) 30 200) (by have := (bw_le (x := (cl xs n (fr + 5))) (show 30 ≤ 200 by decide)).2; omega) h116 (Nat.le_of_ble_eq_true rfl) ⟨(Nat.le_of_ble_eq_true rfl), (Nat.le_of_ble_eq_true rfl)⟩ (by show 78 + 1 ≤ 110 ∧ 268476 + 4000 ≤ 392480; omega) (Nat.le_of_ble_eq_true rfl) dL_bakery_241 (fun M117 v117 cap117 h117 g => ?_)
  clear g h116
  show TO X A _ _ 79 272476 244 _ (.ref b0 :: [])
  refine tw_ldcS C (List.mem_of_getElem? (i := 3) rfl) dL_bakery_244 ?_
  refine tw_appS C 3 (lb 3) 1 (by decide) rfl (by decide +kernel) (by decide +kernel) (bL_lb _ (by decide)) h117 (Nat.le_of_ble_eq_true rfl) ⟨(Nat.le_of_ble_eq_true rfl), (Nat.le_of_ble_eq_true rfl)⟩ (by show 79 + 1 ≤ 110 ∧ 272476 + 4000 ≤ 392480; omega) (Nat.le_of_ble_eq_true rfl) dL_bakery_246 (fun M118 v118 cap118 h118 g => ?_)
  clear g h117
  show TO X A _ _ 80 276476 249 _ (.ref b0 :: [])
  refine tw_pop C dL_bakery_249 rfl ?_
  refine tw_iconst C (0) dL_bakery_250 rfl ?_
  refine tw_istore C dL_bakery_251 (by decide) rfl ?_
  refine tw_pick [4, 5, 3, 0] rfl ?_
  show TO X A _ _ 80 276476 253 [(0, .ref sr), (1, iV (fr : Int)), (2, .ref b0), (5, iV (((0 : Nat)) : Int))] []
  refine bk_turn C ⟨(Nat.le_of_ble_eq_true rfl), (Nat.le_of_ble_eq_true rfl)⟩ sr n xs hS hn fr hfr 0 (by decide) h118 (Nat.le_of_ble_eq_true rfl) (by show 80 + 7 ≤ 110; omega) (by show 276476 + 28000 ≤ 392480; omega) (fun N1 u1 d1 e1 => ?_)
  show TO X A _ _ 87 304476 253 [(0, .ref sr), (1, iV (fr : Int)), (2, .ref b0), (5, iV 1)] []
  refine bk_turn C ⟨(Nat.le_of_ble_eq_true rfl), (Nat.le_of_ble_eq_true rfl)⟩ sr n xs hS hn fr hfr 1 (by decide) e1 (Nat.le_of_ble_eq_true rfl) (by show 87 + 7 ≤ 110; omega) (by show 304476 + 28000 ≤ 392480; omega) (fun N2 u2 d2 e2 => ?_)
  show TO X A _ _ 94 332476 253 [(0, .ref sr), (1, iV (fr : Int)), (2, .ref b0), (5, iV 2)] []
  refine bk_turn C ⟨(Nat.le_of_ble_eq_true rfl), (Nat.le_of_ble_eq_true rfl)⟩ sr n xs hS hn fr hfr 2 (by decide) e2 (Nat.le_of_ble_eq_true rfl) (by show 94 + 7 ≤ 110; omega) (by show 332476 + 28000 ≤ 392480; omega) (fun N3 u3 d3 e3 => ?_)
  show TO X A _ _ 101 360476 253 [(0, .ref sr), (1, iV (fr : Int)), (2, .ref b0), (5, iV 3)] []
  refine bk_turn C ⟨(Nat.le_of_ble_eq_true rfl), (Nat.le_of_ble_eq_true rfl)⟩ sr n xs hS hn fr hfr 3 (by decide) e3 (Nat.le_of_ble_eq_true rfl) (by show 101 + 7 ≤ 110; omega) (by show 360476 + 28000 ≤ 392480; omega) (fun N4 u4 d4 e4 => ?_)
  show TO X A _ _ 108 388476 253 [(0, .ref sr), (1, iV (fr : Int)), (2, .ref b0), (5, iV 4)] []
  refine tw_iload C 3 dL_bakery_253 rfl ?_
  refine tw_iconst C (4) dL_bakery_255 rfl ?_
  refine tw_icmp_ge C 359 (x' := 4) (y' := 4) (zI_eq (by decide) (by decide)) (zI_eq (by decide) (by decide)) dL_bakery_256 rfl (fun _ => ?_) (fun hc => absurd (by decide) hc)
  refine tw_aload_n C 2 dL_bakery_359 rfl rfl ?_
  obtain ⟨f, j1, j2, j3, j4, j5, j6⟩ := e4
  refine tw_callV C (tGo_same C) (As := []) (tc_J4_toString_0e30d _ _ _ _ _ b0 u4 _ d4 f j1 j4 j2 j3) mt_J4_toString_0e30d vr_J4_toString_0e30d wd1263 (tRc_M C cls_J4 j1.1) rfl ⟨(Nat.le_of_ble_eq_true rfl), (Nat.le_of_ble_eq_true rfl)⟩ (by show 108 + 2 ≤ 110 ∧ 388476 + 4004 ≤ 392480; omega) rfl (Nat.le_of_ble_eq_true rfl) dL_bakery_360 ?_
  rintro _ MS ⟨a, w, f2, rfl, i1, i2, i3, i4, i5⟩
  show TO X A _ _ 110 392480 363 _ (.ref a :: [])
  exact tw_aret C ⟨a, w, rfl, i1, ⟨f2, i2, i3, fun k hk => (i4 k hk).trans (j5 k hk)⟩, j6⟩ rfl (Or.inl ⟨_, rfl⟩) ⟨Nat.le_refl _, Nat.le_refl _⟩ dL_bakery_363
