/-! constructors: the reference -/
theorem mt_X13_init : xMth yX13_init cX13_init 1 none 0 := ⟨wd1496, wd164, ⟨by decide, by decide, rfl⟩⟩
theorem rq184 : ∀ k j, 184 ≤ k → k < 215 → rfs k j = true → (k = 184 ∧ j = 0) ∨ (k = 184 ∧ j = 1) ∨ (k = 184 ∧ j = 2) ∨ (k = 184 ∧ j = 3) ∨ (k = 184 ∧ j = 8) ∨ (k = 184 ∧ j = 15) ∨ (k = 184 ∧ j = 16) ∨ (k = 184 ∧ j = 18) ∨ (k = 184 ∧ j = 20) ∨ (k = 184 ∧ j = 21) ∨ (k = 184 ∧ j = 22) ∨ (k = 184 ∧ j = 23) ∨ (k = 184 ∧ j = 24) ∨ (k = 184 ∧ j = 25) ∨ (k = 184 ∧ j = 26) ∨ (k = 184 ∧ j = 28) ∨ (k = 184 ∧ j = 30) ∨ (k = 184 ∧ j = 31) ∨ (k = 184 ∧ j = 32) ∨ (k = 184 ∧ j = 33) ∨ (k = 184 ∧ j = 39) ∨ (k = 184 ∧ j = 40) ∨ (k = 184 ∧ j = 41) ∨ (k = 184 ∧ j = 43) ∨ (k = 184 ∧ j = 44) ∨ (k = 184 ∧ j = 45) ∨ (k = 184 ∧ j = 48) ∨ (k = 184 ∧ j = 49) ∨ (k = 184 ∧ j = 51) ∨ (k = 184 ∧ j = 54) := fun k j a b c => of_decide_eq_true (rq_of (lo := 184) (hi := 215) (P := fun k j => decide ((k = 184 ∧ j = 0) ∨ (k = 184 ∧ j = 1) ∨ (k = 184 ∧ j = 2) ∨ (k = 184 ∧ j = 3) ∨ (k = 184 ∧ j = 8) ∨ (k = 184 ∧ j = 15) ∨ (k = 184 ∧ j = 16) ∨ (k = 184 ∧ j = 18) ∨ (k = 184 ∧ j = 20) ∨ (k = 184 ∧ j = 21) ∨ (k = 184 ∧ j = 22) ∨ (k = 184 ∧ j = 23) ∨ (k = 184 ∧ j = 24) ∨ (k = 184 ∧ j = 25) ∨ (k = 184 ∧ j = 26) ∨ (k = 184 ∧ j = 28) ∨ (k = 184 ∧ j = 30) ∨ (k = 184 ∧ j = 31) ∨ (k = 184 ∧ j = 32) ∨ (k = 184 ∧ j = 33) ∨ (k = 184 ∧ j = 39) ∨ (k = 184 ∧ j = 40) ∨ (k = 184 ∧ j = 41) ∨ (k = 184 ∧ j = 43) ∨ (k = 184 ∧ j = 44) ∨ (k = 184 ∧ j = 45) ∨ (k = 184 ∧ j = 48) ∨ (k = 184 ∧ j = 49) ∨ (k = 184 ∧ j = 51) ∨ (k = 184 ∧ j = 54))) (by decide +kernel) k j a b c)
set_option maxHeartbeats 4000000 in
set_option maxRecDepth 100000 in
theorem ct_X13_init (l : Launch) (E : xE) (hfl : E.2.1.2.2 9 0 = 0) {h : Nat → Nat → Bool} (hh : hlow 184 h) {σ s1 : xS} {n : Nat} (hz0 : ∀ k j, 184 < k → σ k j = 0) (hm1 : m_X13_empties n 185 (xput σ 184 13 (-1)) = some s1) : xMet l E yX13_init cX13_init 1 none { frames := 1, cells := 30, slots := 7944, locals := 24 } [.ref (xqa E.2.2 184)] (wP 186 h) (wP 216 (hR 184 215 h)) σ (some (none, s1)) := by
  refine xMetG_of (by decide) (Nat.le_of_ble_eq_true rfl) (fun X hE hnm Cg => ?_)
  subst hE
  have hh1 := hlow_le hh (Nat.le_succ 184)
  refine x_aload_n (Cg 0 0 (Nat.le_of_ble_eq_true rfl) (Nat.le_of_ble_eq_true rfl)) 0 dX13_init_0 rfl rfl ?_
  refine x_objI (Cg 0 0 (Nat.le_of_ble_eq_true rfl) (Nat.le_of_ble_eq_true rfl)) wd1497 (Nat.le_of_ble_eq_true rfl) (Nat.le_of_ble_eq_true rfl) (Nat.le_of_ble_eq_true rfl) dX13_init_1 ?_
  refine x_aload_n (Cg 0 0 (Nat.le_of_ble_eq_true rfl) (Nat.le_of_ble_eq_true rfl)) 0 dX13_init_4 rfl rfl ?_
  refine x_sipush (Cg 0 0 (Nat.le_of_ble_eq_true rfl) (Nat.le_of_ble_eq_true rfl)) (289) dX13_init_5 rfl ?_
  refine x_newA (m := 186) (by decide) Cg (atype := .int) (q := 0) (n := 289) (c := 185) (by decide) rfl (fun j _ => hz0 _ _ (by decide)) hfl wdA0 rfl rfl (by decide) dX13_init_8 (Nat.le_of_ble_eq_true rfl) (Nat.le_of_ble_eq_true rfl) ?_
  have hh2 := hlow_le hh1 (show 185 ≤ 186 by decide)
  refine x_putR Cg (k0 := 184) (j := 0) (a := 185) (σ' := σ) ⟨(Nat.le_of_ble_eq_true rfl), (Nat.le_of_ble_eq_true rfl)⟩ cls_X13 (by decide) rfl (by decide) wd1502 rfl (Or.inr ⟨rfl, rfl, hnm⟩) rfl (rt_of ⟨rfl, by decide, by decide⟩) (fun _ _ _ => rfl) dX13_init_10 ?_
  have hh3 := hlow_S (k0 := 184) (j := 0) hh2 (by decide)
  refine x_aload_n (Cg 1 289 (Nat.le_of_ble_eq_true rfl) (Nat.le_of_ble_eq_true rfl)) 0 dX13_init_13 rfl rfl ?_
  refine x_sipush (Cg 1 289 (Nat.le_of_ble_eq_true rfl) (Nat.le_of_ble_eq_true rfl)) (289) dX13_init_14 rfl ?_
  refine x_newA (m := 187) (by decide) Cg (atype := .int) (q := 0) (n := 289) (c := 186) (by decide) rfl (fun j _ => hz0 _ _ (by decide)) hfl wdA0 rfl rfl (by decide) dX13_init_17 (Nat.le_of_ble_eq_true rfl) (Nat.le_of_ble_eq_true rfl) ?_
  have hh4 := hlow_le hh3 (show 186 ≤ 187 by decide)
  refine x_putR Cg (k0 := 184) (j := 1) (a := 186) (σ' := σ) ⟨(Nat.le_of_ble_eq_true rfl), (Nat.le_of_ble_eq_true rfl)⟩ cls_X13 (by decide) rfl (by decide) wd1503 rfl (Or.inr ⟨rfl, rfl, hnm⟩) rfl (rt_of ⟨rfl, by decide, by decide⟩) (fun _ _ _ => rfl) dX13_init_19 ?_
  have hh5 := hlow_S (k0 := 184) (j := 1) hh4 (by decide)
  refine x_aload_n (Cg 2 578 (Nat.le_of_ble_eq_true rfl) (Nat.le_of_ble_eq_true rfl)) 0 dX13_init_22 rfl rfl ?_
  refine x_sipush (Cg 2 578 (Nat.le_of_ble_eq_true rfl) (Nat.le_of_ble_eq_true rfl)) (289) dX13_init_23 rfl ?_
  refine x_newA (m := 188) (by decide) Cg (atype := .int) (q := 0) (n := 289) (c := 187) (by decide) rfl (fun j _ => hz0 _ _ (by decide)) hfl wdA0 rfl rfl (by decide) dX13_init_26 (Nat.le_of_ble_eq_true rfl) (Nat.le_of_ble_eq_true rfl) ?_
  have hh6 := hlow_le hh5 (show 187 ≤ 188 by decide)
  refine x_putR Cg (k0 := 184) (j := 2) (a := 187) (σ' := σ) ⟨(Nat.le_of_ble_eq_true rfl), (Nat.le_of_ble_eq_true rfl)⟩ cls_X13 (by decide) rfl (by decide) wd1504 rfl (Or.inr ⟨rfl, rfl, hnm⟩) rfl (rt_of ⟨rfl, by decide, by decide⟩) (fun _ _ _ => rfl) dX13_init_28 ?_
  have hh7 := hlow_S (k0 := 184) (j := 2) hh6 (by decide)
  refine x_aload_n (Cg 3 867 (Nat.le_of_ble_eq_true rfl) (Nat.le_of_ble_eq_true rfl)) 0 dX13_init_31 rfl rfl ?_
  refine x_sipush (Cg 3 867 (Nat.le_of_ble_eq_true rfl) (Nat.le_of_ble_eq_true rfl)) (3468) dX13_init_32 rfl ?_
  refine x_newA (m := 189) (by decide) Cg (atype := .int) (q := 0) (n := 3468) (c := 188) (by decide) rfl (fun j _ => hz0 _ _ (by decide)) hfl wdA0 rfl rfl (by decide) dX13_init_35 (Nat.le_of_ble_eq_true rfl) (Nat.le_of_ble_eq_true rfl) ?_
  have hh8 := hlow_le hh7 (show 188 ≤ 189 by decide)
  refine x_putR Cg (k0 := 184) (j := 3) (a := 188) (σ' := σ) ⟨(Nat.le_of_ble_eq_true rfl), (Nat.le_of_ble_eq_true rfl)⟩ cls_X13 (by decide) rfl (by decide) wd1505 rfl (Or.inr ⟨rfl, rfl, hnm⟩) rfl (rt_of ⟨rfl, by decide, by decide⟩) (fun _ _ _ => rfl) dX13_init_37 ?_
  have hh9 := hlow_S (k0 := 184) (j := 3) hh8 (by decide)
  refine x_aload_n (Cg 4 4335 (Nat.le_of_ble_eq_true rfl) (Nat.le_of_ble_eq_true rfl)) 0 dX13_init_40 rfl rfl ?_
  refine x_sipush (Cg 4 4335 (Nat.le_of_ble_eq_true rfl) (Nat.le_of_ble_eq_true rfl)) (1600) dX13_init_41 rfl ?_
  refine x_newA (m := 190) (by decide) Cg (atype := .byte) (q := 2) (n := 1600) (c := 189) (by decide) rfl (fun j _ => hz0 _ _ (by decide)) hfl wdA2 rfl rfl (by decide) dX13_init_44 (Nat.le_of_ble_eq_true rfl) (Nat.le_of_ble_eq_true rfl) ?_
  have hh10 := hlow_le hh9 (show 189 ≤ 190 by decide)
  refine x_putR Cg (k0 := 184) (j := 8) (a := 189) (σ' := σ) ⟨(Nat.le_of_ble_eq_true rfl), (Nat.le_of_ble_eq_true rfl)⟩ cls_X13 (by decide) rfl (by decide) wd1510 rfl (Or.inr ⟨rfl, rfl, hnm⟩) rfl (rt_of ⟨rfl, by decide, by decide⟩) (fun _ _ _ => rfl) dX13_init_46 ?_
  have hh11 := hlow_S (k0 := 184) (j := 8) hh10 (by decide)
  refine x_aload_n (Cg 5 5935 (Nat.le_of_ble_eq_true rfl) (Nat.le_of_ble_eq_true rfl)) 0 dX13_init_49 rfl rfl ?_
  refine x_iconst (Cg 5 5935 (Nat.le_of_ble_eq_true rfl) (Nat.le_of_ble_eq_true rfl)) (-1) dX13_init_50 rfl ?_
  refine x_put (Cg 5 5935 (Nat.le_of_ble_eq_true rfl) (Nat.le_of_ble_eq_true rfl)) 13 (-1) cls_X13 ⟨(by decide : xqi 184 < 191), rfl⟩ (by decide) wd1515 rfl rfl rfl rfl (xV_pI rfl) dX13_init_51 ?_
  have hz1 : ∀ k j, 184 < k → (xput σ 184 13 (-1)) k j = 0 := fun k j hk => by rw [xput_ne (fun q => by have := q.1; omega)]; exact hz0 k j hk
  refine x_aload_n (Cg 5 5935 (Nat.le_of_ble_eq_true rfl) (Nat.le_of_ble_eq_true rfl)) 0 dX13_init_54 rfl rfl ?_
  refine x_bipush (Cg 5 5935 (Nat.le_of_ble_eq_true rfl) (Nat.le_of_ble_eq_true rfl)) (6) dX13_init_55 rfl ?_
  refine x_newA (m := 191) (by decide) Cg (atype := .long) (q := 1) (n := 6) (c := 190) (by decide) rfl (fun j _ => hz1 _ _ (by decide)) hfl wdA1 rfl rfl (by decide) dX13_init_57 (Nat.le_of_ble_eq_true rfl) (Nat.le_of_ble_eq_true rfl) ?_
  have hh12 := hlow_le hh11 (show 190 ≤ 191 by decide)
  refine x_putR Cg (k0 := 184) (j := 15) (a := 190) (σ' := (xput σ 184 13 (-1))) ⟨(Nat.le_of_ble_eq_true rfl), (Nat.le_of_ble_eq_true rfl)⟩ cls_X13 (by decide) rfl (by decide) wd1517 rfl (Or.inr ⟨rfl, rfl, hnm⟩) rfl (rt_of ⟨rfl, by decide, by decide⟩) (fun _ _ _ => rfl) dX13_init_59 ?_
  have hh13 := hlow_S (k0 := 184) (j := 15) hh12 (by decide)
  refine x_aload_n (Cg 6 5941 (Nat.le_of_ble_eq_true rfl) (Nat.le_of_ble_eq_true rfl)) 0 dX13_init_62 rfl rfl ?_
  refine x_bipush (Cg 6 5941 (Nat.le_of_ble_eq_true rfl) (Nat.le_of_ble_eq_true rfl)) (7) dX13_init_63 rfl ?_
  refine x_newA (m := 192) (by decide) Cg (atype := .long) (q := 1) (n := 7) (c := 191) (by decide) rfl (fun j _ => hz1 _ _ (by decide)) hfl wdA1 rfl rfl (by decide) dX13_init_65 (Nat.le_of_ble_eq_true rfl) (Nat.le_of_ble_eq_true rfl) ?_
  have hh14 := hlow_le hh13 (show 191 ≤ 192 by decide)
  refine x_putR Cg (k0 := 184) (j := 16) (a := 191) (σ' := (xput σ 184 13 (-1))) ⟨(Nat.le_of_ble_eq_true rfl), (Nat.le_of_ble_eq_true rfl)⟩ cls_X13 (by decide) rfl (by decide) wd1518 rfl (Or.inr ⟨rfl, rfl, hnm⟩) rfl (rt_of ⟨rfl, by decide, by decide⟩) (fun _ _ _ => rfl) dX13_init_67 ?_
  have hh15 := hlow_S (k0 := 184) (j := 16) hh14 (by decide)
  refine x_aload_n (Cg 7 5948 (Nat.le_of_ble_eq_true rfl) (Nat.le_of_ble_eq_true rfl)) 0 dX13_init_70 rfl rfl ?_
  refine x_bipush (Cg 7 5948 (Nat.le_of_ble_eq_true rfl) (Nat.le_of_ble_eq_true rfl)) (60) dX13_init_71 rfl ?_
  refine x_newA (m := 193) (by decide) Cg (atype := .int) (q := 0) (n := 60) (c := 192) (by decide) rfl (fun j _ => hz1 _ _ (by decide)) hfl wdA0 rfl rfl (by decide) dX13_init_73 (Nat.le_of_ble_eq_true rfl) (Nat.le_of_ble_eq_true rfl) ?_
  have hh16 := hlow_le hh15 (show 192 ≤ 193 by decide)
  refine x_putR Cg (k0 := 184) (j := 18) (a := 192) (σ' := (xput σ 184 13 (-1))) ⟨(Nat.le_of_ble_eq_true rfl), (Nat.le_of_ble_eq_true rfl)⟩ cls_X13 (by decide) rfl (by decide) wd1520 rfl (Or.inr ⟨rfl, rfl, hnm⟩) rfl (rt_of ⟨rfl, by decide, by decide⟩) (fun _ _ _ => rfl) dX13_init_75 ?_
  have hh17 := hlow_S (k0 := 184) (j := 18) hh16 (by decide)
  refine x_aload_n (Cg 8 6008 (Nat.le_of_ble_eq_true rfl) (Nat.le_of_ble_eq_true rfl)) 0 dX13_init_78 rfl rfl ?_
  refine x_bipush (Cg 8 6008 (Nat.le_of_ble_eq_true rfl) (Nat.le_of_ble_eq_true rfl)) (60) dX13_init_79 rfl ?_
  refine x_newA (m := 194) (by decide) Cg (atype := .int) (q := 0) (n := 60) (c := 193) (by decide) rfl (fun j _ => hz1 _ _ (by decide)) hfl wdA0 rfl rfl (by decide) dX13_init_81 (Nat.le_of_ble_eq_true rfl) (Nat.le_of_ble_eq_true rfl) ?_
  have hh18 := hlow_le hh17 (show 193 ≤ 194 by decide)
  refine x_putR Cg (k0 := 184) (j := 20) (a := 193) (σ' := (xput σ 184 13 (-1))) ⟨(Nat.le_of_ble_eq_true rfl), (Nat.le_of_ble_eq_true rfl)⟩ cls_X13 (by decide) rfl (by decide) wd1522 rfl (Or.inr ⟨rfl, rfl, hnm⟩) rfl (rt_of ⟨rfl, by decide, by decide⟩) (fun _ _ _ => rfl) dX13_init_83 ?_
  have hh19 := hlow_S (k0 := 184) (j := 20) hh18 (by decide)
  refine x_aload_n (Cg 9 6068 (Nat.le_of_ble_eq_true rfl) (Nat.le_of_ble_eq_true rfl)) 0 dX13_init_86 rfl rfl ?_
  refine x_bipush (Cg 9 6068 (Nat.le_of_ble_eq_true rfl) (Nat.le_of_ble_eq_true rfl)) (60) dX13_init_87 rfl ?_
  refine x_newA (m := 195) (by decide) Cg (atype := .int) (q := 0) (n := 60) (c := 194) (by decide) rfl (fun j _ => hz1 _ _ (by decide)) hfl wdA0 rfl rfl (by decide) dX13_init_89 (Nat.le_of_ble_eq_true rfl) (Nat.le_of_ble_eq_true rfl) ?_
  have hh20 := hlow_le hh19 (show 194 ≤ 195 by decide)
  refine x_putR Cg (k0 := 184) (j := 21) (a := 194) (σ' := (xput σ 184 13 (-1))) ⟨(Nat.le_of_ble_eq_true rfl), (Nat.le_of_ble_eq_true rfl)⟩ cls_X13 (by decide) rfl (by decide) wd1523 rfl (Or.inr ⟨rfl, rfl, hnm⟩) rfl (rt_of ⟨rfl, by decide, by decide⟩) (fun _ _ _ => rfl) dX13_init_91 ?_
  have hh21 := hlow_S (k0 := 184) (j := 21) hh20 (by decide)
  refine x_aload_n (Cg 10 6128 (Nat.le_of_ble_eq_true rfl) (Nat.le_of_ble_eq_true rfl)) 0 dX13_init_94 rfl rfl ?_
  refine x_sipush (Cg 10 6128 (Nat.le_of_ble_eq_true rfl) (Nat.le_of_ble_eq_true rfl)) (360) dX13_init_95 rfl ?_
  refine x_newA (m := 196) (by decide) Cg (atype := .int) (q := 0) (n := 360) (c := 195) (by decide) rfl (fun j _ => hz1 _ _ (by decide)) hfl wdA0 rfl rfl (by decide) dX13_init_98 (Nat.le_of_ble_eq_true rfl) (Nat.le_of_ble_eq_true rfl) ?_
  have hh22 := hlow_le hh21 (show 195 ≤ 196 by decide)
  refine x_putR Cg (k0 := 184) (j := 22) (a := 195) (σ' := (xput σ 184 13 (-1))) ⟨(Nat.le_of_ble_eq_true rfl), (Nat.le_of_ble_eq_true rfl)⟩ cls_X13 (by decide) rfl (by decide) wd1524 rfl (Or.inr ⟨rfl, rfl, hnm⟩) rfl (rt_of ⟨rfl, by decide, by decide⟩) (fun _ _ _ => rfl) dX13_init_100 ?_
  have hh23 := hlow_S (k0 := 184) (j := 22) hh22 (by decide)
  refine x_aload_n (Cg 11 6488 (Nat.le_of_ble_eq_true rfl) (Nat.le_of_ble_eq_true rfl)) 0 dX13_init_103 rfl rfl ?_
  refine x_bipush (Cg 11 6488 (Nat.le_of_ble_eq_true rfl) (Nat.le_of_ble_eq_true rfl)) (60) dX13_init_104 rfl ?_
  refine x_newA (m := 197) (by decide) Cg (atype := .int) (q := 0) (n := 60) (c := 196) (by decide) rfl (fun j _ => hz1 _ _ (by decide)) hfl wdA0 rfl rfl (by decide) dX13_init_106 (Nat.le_of_ble_eq_true rfl) (Nat.le_of_ble_eq_true rfl) ?_
  have hh24 := hlow_le hh23 (show 196 ≤ 197 by decide)
  refine x_putR Cg (k0 := 184) (j := 23) (a := 196) (σ' := (xput σ 184 13 (-1))) ⟨(Nat.le_of_ble_eq_true rfl), (Nat.le_of_ble_eq_true rfl)⟩ cls_X13 (by decide) rfl (by decide) wd1525 rfl (Or.inr ⟨rfl, rfl, hnm⟩) rfl (rt_of ⟨rfl, by decide, by decide⟩) (fun _ _ _ => rfl) dX13_init_108 ?_
  have hh25 := hlow_S (k0 := 184) (j := 23) hh24 (by decide)
  refine x_aload_n (Cg 12 6548 (Nat.le_of_ble_eq_true rfl) (Nat.le_of_ble_eq_true rfl)) 0 dX13_init_111 rfl rfl ?_
  refine x_bipush (Cg 12 6548 (Nat.le_of_ble_eq_true rfl) (Nat.le_of_ble_eq_true rfl)) (60) dX13_init_112 rfl ?_
  refine x_newA (m := 198) (by decide) Cg (atype := .int) (q := 0) (n := 60) (c := 197) (by decide) rfl (fun j _ => hz1 _ _ (by decide)) hfl wdA0 rfl rfl (by decide) dX13_init_114 (Nat.le_of_ble_eq_true rfl) (Nat.le_of_ble_eq_true rfl) ?_
  have hh26 := hlow_le hh25 (show 197 ≤ 198 by decide)
  refine x_putR Cg (k0 := 184) (j := 24) (a := 197) (σ' := (xput σ 184 13 (-1))) ⟨(Nat.le_of_ble_eq_true rfl), (Nat.le_of_ble_eq_true rfl)⟩ cls_X13 (by decide) rfl (by decide) wd1526 rfl (Or.inr ⟨rfl, rfl, hnm⟩) rfl (rt_of ⟨rfl, by decide, by decide⟩) (fun _ _ _ => rfl) dX13_init_116 ?_
  have hh27 := hlow_S (k0 := 184) (j := 24) hh26 (by decide)
  refine x_aload_n (Cg 13 6608 (Nat.le_of_ble_eq_true rfl) (Nat.le_of_ble_eq_true rfl)) 0 dX13_init_119 rfl rfl ?_
  refine x_bipush (Cg 13 6608 (Nat.le_of_ble_eq_true rfl) (Nat.le_of_ble_eq_true rfl)) (60) dX13_init_120 rfl ?_
  refine x_newA (m := 199) (by decide) Cg (atype := .int) (q := 0) (n := 60) (c := 198) (by decide) rfl (fun j _ => hz1 _ _ (by decide)) hfl wdA0 rfl rfl (by decide) dX13_init_122 (Nat.le_of_ble_eq_true rfl) (Nat.le_of_ble_eq_true rfl) ?_
  have hh28 := hlow_le hh27 (show 198 ≤ 199 by decide)
  refine x_putR Cg (k0 := 184) (j := 25) (a := 198) (σ' := (xput σ 184 13 (-1))) ⟨(Nat.le_of_ble_eq_true rfl), (Nat.le_of_ble_eq_true rfl)⟩ cls_X13 (by decide) rfl (by decide) wd1527 rfl (Or.inr ⟨rfl, rfl, hnm⟩) rfl (rt_of ⟨rfl, by decide, by decide⟩) (fun _ _ _ => rfl) dX13_init_124 ?_
  have hh29 := hlow_S (k0 := 184) (j := 25) hh28 (by decide)
  refine x_aload_n (Cg 14 6668 (Nat.le_of_ble_eq_true rfl) (Nat.le_of_ble_eq_true rfl)) 0 dX13_init_127 rfl rfl ?_
  refine x_bipush (Cg 14 6668 (Nat.le_of_ble_eq_true rfl) (Nat.le_of_ble_eq_true rfl)) (60) dX13_init_128 rfl ?_
  refine x_newA (m := 200) (by decide) Cg (atype := .int) (q := 0) (n := 60) (c := 199) (by decide) rfl (fun j _ => hz1 _ _ (by decide)) hfl wdA0 rfl rfl (by decide) dX13_init_130 (Nat.le_of_ble_eq_true rfl) (Nat.le_of_ble_eq_true rfl) ?_
  have hh30 := hlow_le hh29 (show 199 ≤ 200 by decide)
  refine x_putR Cg (k0 := 184) (j := 26) (a := 199) (σ' := (xput σ 184 13 (-1))) ⟨(Nat.le_of_ble_eq_true rfl), (Nat.le_of_ble_eq_true rfl)⟩ cls_X13 (by decide) rfl (by decide) wd1528 rfl (Or.inr ⟨rfl, rfl, hnm⟩) rfl (rt_of ⟨rfl, by decide, by decide⟩) (fun _ _ _ => rfl) dX13_init_132 ?_
  have hh31 := hlow_S (k0 := 184) (j := 26) hh30 (by decide)
  refine x_aload_n (Cg 15 6728 (Nat.le_of_ble_eq_true rfl) (Nat.le_of_ble_eq_true rfl)) 0 dX13_init_135 rfl rfl ?_
  refine x_bipush (Cg 15 6728 (Nat.le_of_ble_eq_true rfl) (Nat.le_of_ble_eq_true rfl)) (60) dX13_init_136 rfl ?_
  refine x_newA (m := 201) (by decide) Cg (atype := .int) (q := 0) (n := 60) (c := 200) (by decide) rfl (fun j _ => hz1 _ _ (by decide)) hfl wdA0 rfl rfl (by decide) dX13_init_138 (Nat.le_of_ble_eq_true rfl) (Nat.le_of_ble_eq_true rfl) ?_
  have hh32 := hlow_le hh31 (show 200 ≤ 201 by decide)
  refine x_putR Cg (k0 := 184) (j := 28) (a := 200) (σ' := (xput σ 184 13 (-1))) ⟨(Nat.le_of_ble_eq_true rfl), (Nat.le_of_ble_eq_true rfl)⟩ cls_X13 (by decide) rfl (by decide) wd1530 rfl (Or.inr ⟨rfl, rfl, hnm⟩) rfl (rt_of ⟨rfl, by decide, by decide⟩) (fun _ _ _ => rfl) dX13_init_140 ?_
  have hh33 := hlow_S (k0 := 184) (j := 28) hh32 (by decide)
  refine x_aload_n (Cg 16 6788 (Nat.le_of_ble_eq_true rfl) (Nat.le_of_ble_eq_true rfl)) 0 dX13_init_143 rfl rfl ?_
  refine x_iconst (Cg 16 6788 (Nat.le_of_ble_eq_true rfl) (Nat.le_of_ble_eq_true rfl)) (4) dX13_init_144 rfl ?_
  refine x_newA (m := 202) (by decide) Cg (atype := .int) (q := 0) (n := 4) (c := 201) (by decide) rfl (fun j _ => hz1 _ _ (by decide)) hfl wdA0 rfl rfl (by decide) dX13_init_145 (Nat.le_of_ble_eq_true rfl) (Nat.le_of_ble_eq_true rfl) ?_
  have hh34 := hlow_le hh33 (show 201 ≤ 202 by decide)
  refine x_putR Cg (k0 := 184) (j := 30) (a := 201) (σ' := (xput σ 184 13 (-1))) ⟨(Nat.le_of_ble_eq_true rfl), (Nat.le_of_ble_eq_true rfl)⟩ cls_X13 (by decide) rfl (by decide) wd1532 rfl (Or.inr ⟨rfl, rfl, hnm⟩) rfl (rt_of ⟨rfl, by decide, by decide⟩) (fun _ _ _ => rfl) dX13_init_147 ?_
  have hh35 := hlow_S (k0 := 184) (j := 30) hh34 (by decide)
  refine x_aload_n (Cg 17 6792 (Nat.le_of_ble_eq_true rfl) (Nat.le_of_ble_eq_true rfl)) 0 dX13_init_150 rfl rfl ?_
  refine x_iconst (Cg 17 6792 (Nat.le_of_ble_eq_true rfl) (Nat.le_of_ble_eq_true rfl)) (4) dX13_init_151 rfl ?_
  refine x_newA (m := 203) (by decide) Cg (atype := .int) (q := 0) (n := 4) (c := 202) (by decide) rfl (fun j _ => hz1 _ _ (by decide)) hfl wdA0 rfl rfl (by decide) dX13_init_152 (Nat.le_of_ble_eq_true rfl) (Nat.le_of_ble_eq_true rfl) ?_
  have hh36 := hlow_le hh35 (show 202 ≤ 203 by decide)
  refine x_putR Cg (k0 := 184) (j := 31) (a := 202) (σ' := (xput σ 184 13 (-1))) ⟨(Nat.le_of_ble_eq_true rfl), (Nat.le_of_ble_eq_true rfl)⟩ cls_X13 (by decide) rfl (by decide) wd1533 rfl (Or.inr ⟨rfl, rfl, hnm⟩) rfl (rt_of ⟨rfl, by decide, by decide⟩) (fun _ _ _ => rfl) dX13_init_154 ?_
  have hh37 := hlow_S (k0 := 184) (j := 31) hh36 (by decide)
  refine x_aload_n (Cg 18 6796 (Nat.le_of_ble_eq_true rfl) (Nat.le_of_ble_eq_true rfl)) 0 dX13_init_157 rfl rfl ?_
  refine x_iconst (Cg 18 6796 (Nat.le_of_ble_eq_true rfl) (Nat.le_of_ble_eq_true rfl)) (4) dX13_init_158 rfl ?_
  refine x_newA (m := 204) (by decide) Cg (atype := .int) (q := 0) (n := 4) (c := 203) (by decide) rfl (fun j _ => hz1 _ _ (by decide)) hfl wdA0 rfl rfl (by decide) dX13_init_159 (Nat.le_of_ble_eq_true rfl) (Nat.le_of_ble_eq_true rfl) ?_
  have hh38 := hlow_le hh37 (show 203 ≤ 204 by decide)
  refine x_putR Cg (k0 := 184) (j := 32) (a := 203) (σ' := (xput σ 184 13 (-1))) ⟨(Nat.le_of_ble_eq_true rfl), (Nat.le_of_ble_eq_true rfl)⟩ cls_X13 (by decide) rfl (by decide) wd1534 rfl (Or.inr ⟨rfl, rfl, hnm⟩) rfl (rt_of ⟨rfl, by decide, by decide⟩) (fun _ _ _ => rfl) dX13_init_161 ?_
  have hh39 := hlow_S (k0 := 184) (j := 32) hh38 (by decide)
  refine x_aload_n (Cg 19 6800 (Nat.le_of_ble_eq_true rfl) (Nat.le_of_ble_eq_true rfl)) 0 dX13_init_164 rfl rfl ?_
  refine x_iconst (Cg 19 6800 (Nat.le_of_ble_eq_true rfl) (Nat.le_of_ble_eq_true rfl)) (4) dX13_init_165 rfl ?_
  refine x_newA (m := 205) (by decide) Cg (atype := .int) (q := 0) (n := 4) (c := 204) (by decide) rfl (fun j _ => hz1 _ _ (by decide)) hfl wdA0 rfl rfl (by decide) dX13_init_166 (Nat.le_of_ble_eq_true rfl) (Nat.le_of_ble_eq_true rfl) ?_
  have hh40 := hlow_le hh39 (show 204 ≤ 205 by decide)
  refine x_putR Cg (k0 := 184) (j := 33) (a := 204) (σ' := (xput σ 184 13 (-1))) ⟨(Nat.le_of_ble_eq_true rfl), (Nat.le_of_ble_eq_true rfl)⟩ cls_X13 (by decide) rfl (by decide) wd1535 rfl (Or.inr ⟨rfl, rfl, hnm⟩) rfl (rt_of ⟨rfl, by decide, by decide⟩) (fun _ _ _ => rfl) dX13_init_168 ?_
  have hh41 := hlow_S (k0 := 184) (j := 33) hh40 (by decide)
  refine x_aload_n (Cg 20 6804 (Nat.le_of_ble_eq_true rfl) (Nat.le_of_ble_eq_true rfl)) 0 dX13_init_171 rfl rfl ?_
  refine x_bipush (Cg 20 6804 (Nat.le_of_ble_eq_true rfl) (Nat.le_of_ble_eq_true rfl)) (64) dX13_init_172 rfl ?_
  refine x_newA (m := 206) (by decide) Cg (atype := .int) (q := 0) (n := 64) (c := 205) (by decide) rfl (fun j _ => hz1 _ _ (by decide)) hfl wdA0 rfl rfl (by decide) dX13_init_174 (Nat.le_of_ble_eq_true rfl) (Nat.le_of_ble_eq_true rfl) ?_
  have hh42 := hlow_le hh41 (show 205 ≤ 206 by decide)
  refine x_putR Cg (k0 := 184) (j := 39) (a := 205) (σ' := (xput σ 184 13 (-1))) ⟨(Nat.le_of_ble_eq_true rfl), (Nat.le_of_ble_eq_true rfl)⟩ cls_X13 (by decide) rfl (by decide) wd1541 rfl (Or.inr ⟨rfl, rfl, hnm⟩) rfl (rt_of ⟨rfl, by decide, by decide⟩) (fun _ _ _ => rfl) dX13_init_176 ?_
  have hh43 := hlow_S (k0 := 184) (j := 39) hh42 (by decide)
  refine x_aload_n (Cg 21 6868 (Nat.le_of_ble_eq_true rfl) (Nat.le_of_ble_eq_true rfl)) 0 dX13_init_179 rfl rfl ?_
  refine x_sipush (Cg 21 6868 (Nat.le_of_ble_eq_true rfl) (Nat.le_of_ble_eq_true rfl)) (1024) dX13_init_180 rfl ?_
  refine x_newA (m := 207) (by decide) Cg (atype := .int) (q := 0) (n := 1024) (c := 206) (by decide) rfl (fun j _ => hz1 _ _ (by decide)) hfl wdA0 rfl rfl (by decide) dX13_init_183 (Nat.le_of_ble_eq_true rfl) (Nat.le_of_ble_eq_true rfl) ?_
  have hh44 := hlow_le hh43 (show 206 ≤ 207 by decide)
  refine x_putR Cg (k0 := 184) (j := 40) (a := 206) (σ' := (xput σ 184 13 (-1))) ⟨(Nat.le_of_ble_eq_true rfl), (Nat.le_of_ble_eq_true rfl)⟩ cls_X13 (by decide) rfl (by decide) wd1542 rfl (Or.inr ⟨rfl, rfl, hnm⟩) rfl (rt_of ⟨rfl, by decide, by decide⟩) (fun _ _ _ => rfl) dX13_init_185 ?_
  have hh45 := hlow_S (k0 := 184) (j := 40) hh44 (by decide)
  refine x_aload_n (Cg 22 7892 (Nat.le_of_ble_eq_true rfl) (Nat.le_of_ble_eq_true rfl)) 0 dX13_init_188 rfl rfl ?_
  refine x_bipush (Cg 22 7892 (Nat.le_of_ble_eq_true rfl) (Nat.le_of_ble_eq_true rfl)) (7) dX13_init_189 rfl ?_
  refine x_newA (m := 208) (by decide) Cg (atype := .int) (q := 0) (n := 7) (c := 207) (by decide) rfl (fun j _ => hz1 _ _ (by decide)) hfl wdA0 rfl rfl (by decide) dX13_init_191 (Nat.le_of_ble_eq_true rfl) (Nat.le_of_ble_eq_true rfl) ?_
  have hh46 := hlow_le hh45 (show 207 ≤ 208 by decide)
  refine x_putR Cg (k0 := 184) (j := 41) (a := 207) (σ' := (xput σ 184 13 (-1))) ⟨(Nat.le_of_ble_eq_true rfl), (Nat.le_of_ble_eq_true rfl)⟩ cls_X13 (by decide) rfl (by decide) wd1543 rfl (Or.inr ⟨rfl, rfl, hnm⟩) rfl (rt_of ⟨rfl, by decide, by decide⟩) (fun _ _ _ => rfl) dX13_init_193 ?_
  have hh47 := hlow_S (k0 := 184) (j := 41) hh46 (by decide)
  refine x_aload_n (Cg 23 7899 (Nat.le_of_ble_eq_true rfl) (Nat.le_of_ble_eq_true rfl)) 0 dX13_init_196 rfl rfl ?_
  refine x_bipush (Cg 23 7899 (Nat.le_of_ble_eq_true rfl) (Nat.le_of_ble_eq_true rfl)) (7) dX13_init_197 rfl ?_
  refine x_newA (m := 209) (by decide) Cg (atype := .int) (q := 0) (n := 7) (c := 208) (by decide) rfl (fun j _ => hz1 _ _ (by decide)) hfl wdA0 rfl rfl (by decide) dX13_init_199 (Nat.le_of_ble_eq_true rfl) (Nat.le_of_ble_eq_true rfl) ?_
  have hh48 := hlow_le hh47 (show 208 ≤ 209 by decide)
  refine x_putR Cg (k0 := 184) (j := 43) (a := 208) (σ' := (xput σ 184 13 (-1))) ⟨(Nat.le_of_ble_eq_true rfl), (Nat.le_of_ble_eq_true rfl)⟩ cls_X13 (by decide) rfl (by decide) wd1545 rfl (Or.inr ⟨rfl, rfl, hnm⟩) rfl (rt_of ⟨rfl, by decide, by decide⟩) (fun _ _ _ => rfl) dX13_init_201 ?_
  have hh49 := hlow_S (k0 := 184) (j := 43) hh48 (by decide)
  refine x_aload_n (Cg 24 7906 (Nat.le_of_ble_eq_true rfl) (Nat.le_of_ble_eq_true rfl)) 0 dX13_init_204 rfl rfl ?_
  refine x_bipush (Cg 24 7906 (Nat.le_of_ble_eq_true rfl) (Nat.le_of_ble_eq_true rfl)) (7) dX13_init_205 rfl ?_
  refine x_newA (m := 210) (by decide) Cg (atype := .int) (q := 0) (n := 7) (c := 209) (by decide) rfl (fun j _ => hz1 _ _ (by decide)) hfl wdA0 rfl rfl (by decide) dX13_init_207 (Nat.le_of_ble_eq_true rfl) (Nat.le_of_ble_eq_true rfl) ?_
  have hh50 := hlow_le hh49 (show 209 ≤ 210 by decide)
  refine x_putR Cg (k0 := 184) (j := 44) (a := 209) (σ' := (xput σ 184 13 (-1))) ⟨(Nat.le_of_ble_eq_true rfl), (Nat.le_of_ble_eq_true rfl)⟩ cls_X13 (by decide) rfl (by decide) wd1546 rfl (Or.inr ⟨rfl, rfl, hnm⟩) rfl (rt_of ⟨rfl, by decide, by decide⟩) (fun _ _ _ => rfl) dX13_init_209 ?_
  have hh51 := hlow_S (k0 := 184) (j := 44) hh50 (by decide)
  refine x_aload_n (Cg 25 7913 (Nat.le_of_ble_eq_true rfl) (Nat.le_of_ble_eq_true rfl)) 0 dX13_init_212 rfl rfl ?_
  refine x_bipush (Cg 25 7913 (Nat.le_of_ble_eq_true rfl) (Nat.le_of_ble_eq_true rfl)) (7) dX13_init_213 rfl ?_
  refine x_newA (m := 211) (by decide) Cg (atype := .int) (q := 0) (n := 7) (c := 210) (by decide) rfl (fun j _ => hz1 _ _ (by decide)) hfl wdA0 rfl rfl (by decide) dX13_init_215 (Nat.le_of_ble_eq_true rfl) (Nat.le_of_ble_eq_true rfl) ?_
  have hh52 := hlow_le hh51 (show 210 ≤ 211 by decide)
  refine x_putR Cg (k0 := 184) (j := 45) (a := 210) (σ' := (xput σ 184 13 (-1))) ⟨(Nat.le_of_ble_eq_true rfl), (Nat.le_of_ble_eq_true rfl)⟩ cls_X13 (by decide) rfl (by decide) wd1547 rfl (Or.inr ⟨rfl, rfl, hnm⟩) rfl (rt_of ⟨rfl, by decide, by decide⟩) (fun _ _ _ => rfl) dX13_init_217 ?_
  have hh53 := hlow_S (k0 := 184) (j := 45) hh52 (by decide)
  refine x_aload_n (Cg 26 7920 (Nat.le_of_ble_eq_true rfl) (Nat.le_of_ble_eq_true rfl)) 0 dX13_init_220 rfl rfl ?_
  refine x_iconst (Cg 26 7920 (Nat.le_of_ble_eq_true rfl) (Nat.le_of_ble_eq_true rfl)) (3) dX13_init_221 rfl ?_
  refine x_newA (m := 212) (by decide) Cg (atype := .int) (q := 0) (n := 3) (c := 211) (by decide) rfl (fun j _ => hz1 _ _ (by decide)) hfl wdA0 rfl rfl (by decide) dX13_init_222 (Nat.le_of_ble_eq_true rfl) (Nat.le_of_ble_eq_true rfl) ?_
  have hh54 := hlow_le hh53 (show 211 ≤ 212 by decide)
  refine x_putR Cg (k0 := 184) (j := 48) (a := 211) (σ' := (xput σ 184 13 (-1))) ⟨(Nat.le_of_ble_eq_true rfl), (Nat.le_of_ble_eq_true rfl)⟩ cls_X13 (by decide) rfl (by decide) wd1550 rfl (Or.inr ⟨rfl, rfl, hnm⟩) rfl (rt_of ⟨rfl, by decide, by decide⟩) (fun _ _ _ => rfl) dX13_init_224 ?_
  have hh55 := hlow_S (k0 := 184) (j := 48) hh54 (by decide)
  refine x_aload_n (Cg 27 7923 (Nat.le_of_ble_eq_true rfl) (Nat.le_of_ble_eq_true rfl)) 0 dX13_init_227 rfl rfl ?_
  refine x_bipush (Cg 27 7923 (Nat.le_of_ble_eq_true rfl) (Nat.le_of_ble_eq_true rfl)) (7) dX13_init_228 rfl ?_
  refine x_newA (m := 213) (by decide) Cg (atype := .int) (q := 0) (n := 7) (c := 212) (by decide) rfl (fun j _ => hz1 _ _ (by decide)) hfl wdA0 rfl rfl (by decide) dX13_init_230 (Nat.le_of_ble_eq_true rfl) (Nat.le_of_ble_eq_true rfl) ?_
  have hh56 := hlow_le hh55 (show 212 ≤ 213 by decide)
  refine x_putR Cg (k0 := 184) (j := 49) (a := 212) (σ' := (xput σ 184 13 (-1))) ⟨(Nat.le_of_ble_eq_true rfl), (Nat.le_of_ble_eq_true rfl)⟩ cls_X13 (by decide) rfl (by decide) wd1551 rfl (Or.inr ⟨rfl, rfl, hnm⟩) rfl (rt_of ⟨rfl, by decide, by decide⟩) (fun _ _ _ => rfl) dX13_init_232 ?_
  have hh57 := hlow_S (k0 := 184) (j := 49) hh56 (by decide)
  refine x_aload_n (Cg 28 7930 (Nat.le_of_ble_eq_true rfl) (Nat.le_of_ble_eq_true rfl)) 0 dX13_init_235 rfl rfl ?_
  refine x_bipush (Cg 28 7930 (Nat.le_of_ble_eq_true rfl) (Nat.le_of_ble_eq_true rfl)) (7) dX13_init_236 rfl ?_
  refine x_newA (m := 214) (by decide) Cg (atype := .int) (q := 0) (n := 7) (c := 213) (by decide) rfl (fun j _ => hz1 _ _ (by decide)) hfl wdA0 rfl rfl (by decide) dX13_init_238 (Nat.le_of_ble_eq_true rfl) (Nat.le_of_ble_eq_true rfl) ?_
  have hh58 := hlow_le hh57 (show 213 ≤ 214 by decide)
  refine x_putR Cg (k0 := 184) (j := 51) (a := 213) (σ' := (xput σ 184 13 (-1))) ⟨(Nat.le_of_ble_eq_true rfl), (Nat.le_of_ble_eq_true rfl)⟩ cls_X13 (by decide) rfl (by decide) wd1553 rfl (Or.inr ⟨rfl, rfl, hnm⟩) rfl (rt_of ⟨rfl, by decide, by decide⟩) (fun _ _ _ => rfl) dX13_init_240 ?_
  have hh59 := hlow_S (k0 := 184) (j := 51) hh58 (by decide)
  refine x_aload_n (Cg 29 7937 (Nat.le_of_ble_eq_true rfl) (Nat.le_of_ble_eq_true rfl)) 0 dX13_init_243 rfl rfl ?_
  refine x_bipush (Cg 29 7937 (Nat.le_of_ble_eq_true rfl) (Nat.le_of_ble_eq_true rfl)) (7) dX13_init_244 rfl ?_
  refine x_newA (m := 215) (by decide) Cg (atype := .int) (q := 0) (n := 7) (c := 214) (by decide) rfl (fun j _ => hz1 _ _ (by decide)) hfl wdA0 rfl rfl (by decide) dX13_init_246 (Nat.le_of_ble_eq_true rfl) (Nat.le_of_ble_eq_true rfl) ?_
  have hh60 := hlow_le hh59 (show 214 ≤ 215 by decide)
  refine x_putR Cg (k0 := 184) (j := 54) (a := 214) (σ' := (xput σ 184 13 (-1))) ⟨(Nat.le_of_ble_eq_true rfl), (Nat.le_of_ble_eq_true rfl)⟩ cls_X13 (by decide) rfl (by decide) wd1556 rfl (Or.inr ⟨rfl, rfl, hnm⟩) rfl (rt_of ⟨rfl, by decide, by decide⟩) (fun _ _ _ => rfl) dX13_init_248 ?_
  have hh61 := hlow_S (k0 := 184) (j := 54) hh60 (by decide)
  refine x_wR (h := h) (lo := 184) (hi := 215) (by decide) (fun k j a1 a2 a3 => ?_) (fun k j a1 => ?_) ?_
  · have a4 := rq184 k j a1 a2 a3
    rcases a4 with a4 | a4 | a4 | a4 | a4 | a4 | a4 | a4 | a4 | a4 | a4 | a4 | a4 | a4 | a4 | a4 | a4 | a4 | a4 | a4 | a4 | a4 | a4 | a4 | a4 | a4 | a4 | a4 | a4 | a4
    · obtain ⟨rfl, rfl⟩ := a4; simp [hS, hM, hR]
    · obtain ⟨rfl, rfl⟩ := a4; simp [hS, hM, hR]
    · obtain ⟨rfl, rfl⟩ := a4; simp [hS, hM, hR]
    · obtain ⟨rfl, rfl⟩ := a4; simp [hS, hM, hR]
    · obtain ⟨rfl, rfl⟩ := a4; simp [hS, hM, hR]
    · obtain ⟨rfl, rfl⟩ := a4; simp [hS, hM, hR]
    · obtain ⟨rfl, rfl⟩ := a4; simp [hS, hM, hR]
    · obtain ⟨rfl, rfl⟩ := a4; simp [hS, hM, hR]
    · obtain ⟨rfl, rfl⟩ := a4; simp [hS, hM, hR]
    · obtain ⟨rfl, rfl⟩ := a4; simp [hS, hM, hR]
    · obtain ⟨rfl, rfl⟩ := a4; simp [hS, hM, hR]
    · obtain ⟨rfl, rfl⟩ := a4; simp [hS, hM, hR]
    · obtain ⟨rfl, rfl⟩ := a4; simp [hS, hM, hR]
    · obtain ⟨rfl, rfl⟩ := a4; simp [hS, hM, hR]
    · obtain ⟨rfl, rfl⟩ := a4; simp [hS, hM, hR]
    · obtain ⟨rfl, rfl⟩ := a4; simp [hS, hM, hR]
    · obtain ⟨rfl, rfl⟩ := a4; simp [hS, hM, hR]
    · obtain ⟨rfl, rfl⟩ := a4; simp [hS, hM, hR]
    · obtain ⟨rfl, rfl⟩ := a4; simp [hS, hM, hR]
    · obtain ⟨rfl, rfl⟩ := a4; simp [hS, hM, hR]
    · obtain ⟨rfl, rfl⟩ := a4; simp [hS, hM, hR]
    · obtain ⟨rfl, rfl⟩ := a4; simp [hS, hM, hR]
    · obtain ⟨rfl, rfl⟩ := a4; simp [hS, hM, hR]
    · obtain ⟨rfl, rfl⟩ := a4; simp [hS, hM, hR]
    · obtain ⟨rfl, rfl⟩ := a4; simp [hS, hM, hR]
    · obtain ⟨rfl, rfl⟩ := a4; simp [hS, hM, hR]
    · obtain ⟨rfl, rfl⟩ := a4; simp [hS, hM, hR]
    · obtain ⟨rfl, rfl⟩ := a4; simp [hS, hM, hR]
    · obtain ⟨rfl, rfl⟩ := a4; simp [hS, hM, hR]
    · obtain ⟨rfl, rfl⟩ := a4; simp [hS, hM, hR]
  · rw [hS_ne (by omega), hS_ne (by omega), hS_ne (by omega), hS_ne (by omega), hS_ne (by omega), hS_ne (by omega), hS_ne (by omega), hS_ne (by omega), hS_ne (by omega), hS_ne (by omega), hS_ne (by omega), hS_ne (by omega), hS_ne (by omega), hS_ne (by omega), hS_ne (by omega), hS_ne (by omega), hS_ne (by omega), hS_ne (by omega), hS_ne (by omega), hS_ne (by omega), hS_ne (by omega), hS_ne (by omega), hS_ne (by omega), hS_ne (by omega), hS_ne (by omega), hS_ne (by omega), hS_ne (by omega), hS_ne (by omega), hS_ne (by omega), hS_ne (by omega)]
  · refine x_aload_n (Cg 30 7944 (Nat.le_of_ble_eq_true rfl) (Nat.le_of_ble_eq_true rfl)) 0 dX13_init_251 rfl rfl ?_
    refine x_aload_n (Cg 30 7944 (Nat.le_of_ble_eq_true rfl) (Nat.le_of_ble_eq_true rfl)) 0 dX13_init_252 rfl rfl ?_
    refine x_get (v := .ref (xqa (xXE X).2.2 185)) (Cg 30 7944 (Nat.le_of_ble_eq_true rfl) (Nat.le_of_ble_eq_true rfl)) 0 cls_X13 ⟨by show xqi 184 < 216; decide, rfl⟩ (by decide) wd1502 rfl (xV_r (wP_ref (hR_eq (by decide)) (rt_of ⟨rfl, by decide, by decide⟩)) rfl) dX13_init_253 ?_
    refine x_callV (Cg 30 7944 (Nat.le_of_ble_eq_true rfl) (Nat.le_of_ble_eq_true rfl)) (cg_X13_empties _ _ n 185 (xput σ 184 13 (-1)) ⟨by show xqi 185 < 216; decide, rfl⟩) mt_X13_empties vr_X13_empties wd1498 cls_X13 ⟨by show xqi 184 < 216; decide, rfl⟩ rfl ⟨rfl, rfl, (Nat.le_of_ble_eq_true rfl), (Nat.le_of_ble_eq_true rfl)⟩ rfl (Nat.le_of_ble_eq_true rfl) dX13_init_256 (kEq (τ := s1) (by rw [hm1]; rfl) ?_)
    exact x_vretG Cg (Nat.le_of_ble_eq_true rfl) (Nat.le_of_ble_eq_true rfl) dX13_init_259
