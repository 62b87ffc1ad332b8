/-! constructors: the loops of a bakery -/
set_option maxHeartbeats 4000000 in
set_option maxRecDepth 100000 in
theorem lp_X1_1_6 {ρ : Type} {X : xX} {Qf : ρ → State → Prop} {o : Option ρ} {h : Nat → Nat → Bool} {σ : xS} {k0 z0 : Nat} (Cg : xCg X cX1_init RX1 none { frames := 3, cells := 53, slots := 1416, locals := 72 } 2) (hfl : (xXE X).2.1.2.2 9 0 = 0) (hl : hlow (7 + 1) h) (hset : h 6 4 = true) (hz : ∀ k j, 6 < k → σ k j = 0) (hk : k0 + 6 ≤ 53) (hz0 : z0 + 10 * 6 ≤ 1416)
    (aft : WO (xat X (k0 + 6) (z0 + 10 * 6)) Qf (wP (7 + 2 + 6) (hM h 7 6)) σ 40 [(1, iV ((6 : Nat) : Int)), (0, .ref (xqa (xXE X).2.2 6))] [] o) : ∀ d i, i + d = 6 → WO (xat X (k0 + i) (z0 + 10 * i)) Qf (wP (7 + 2 + i) (hM h 7 i)) σ 15 [(1, iV (i : Int)), (0, .ref (xqa (xXE X).2.2 6))] [] o := by
  intro d
  induction d with
  | zero =>
    intro i hi
    obtain rfl : i = 6 := by omega
    have C := Cg (k0 + 6) (z0 + 10 * 6) hk hz0
    refine x_iload_n C 0 dX1_init_15 rfl rfl ?_
    refine x_bipush C (6) dX1_init_16 rfl ?_
    exact x_icmp_ge C 40 (zI_of (by omega) (by omega)) (zI_of (by omega) (by omega)) dX1_init_18 rfl (fun _ => aft) (fun c => absurd (by omega) c)
  | succ d ih =>
    intro i hi
    have C := Cg (k0 + i) (z0 + 10 * i) (by show k0 + i ≤ 53; omega) (by show z0 + 10 * i ≤ 1416; omega)
    refine x_iload_n C 0 dX1_init_15 rfl rfl ?_
    refine x_bipush C (6) dX1_init_16 rfl ?_
    refine x_icmp_ge C 40 (zI_of (by omega) (by omega)) (zI_of (by omega) (by omega)) dX1_init_18 rfl (fun c => absurd c (by omega)) (fun _ => ?_)
    refine x_aload_n C 1 dX1_init_21 rfl rfl ?_
    refine x_get (v := .ref (xqa (xXE X).2.2 7)) C 4 cls_X1 ⟨Nat.lt_of_lt_of_le (by decide : xqi 6 < 7 + 2) (by show 7 + 2 ≤ 7 + 2 + i; omega), rfl⟩ (by decide) wd349 rfl (xV_r (wP_ref (by rw [hM_ne (by omega)]; exact hset) (rt_of ⟨rfl, by decide, by decide⟩)) rfl) dX1_init_22 ?_
    refine x_iload_n C 0 dX1_init_25 rfl rfl ?_
    have hsh : WW.2.1 (7 + 1 + i) = (20 + 1, 10) := (by decide +kernel : ∀ i, i < 6 → WW.2.1 (7 + 1 + i) = (20 + 1, 10)) i (by omega)
    refine x_newO (m := 7 + 2 + i) ((xqi_up (by omega) (by omega)).trans (by omega)) Cg (c := 7 + 1 + i) cls_X2 hsh (fun j _ => by rw [hM_ne (by omega)]; exact hl _ _ (by omega)) (fun j _ => hz _ _ (by omega)) (by decide) hfl wd155 wd157 wd53 dX1_init_26 (by show k0 + i + 1 ≤ 53; omega) (by show z0 + 10 * i + 10 ≤ 1416; omega) ?_
    have C1 := Cg (k0 + i + 1) (z0 + 10 * i + 10) (by show k0 + i + 1 ≤ 53; omega) (by show z0 + 10 * i + 10 ≤ 1416; omega)
    refine x_dup C1 dX1_init_29 rfl ?_
    refine x_callIN Cg ⟨by show k0 + i + 1 ≤ 53; omega, by show z0 + 10 * i + 10 ≤ 1416; omega⟩ (ct_X2_init _ _ (7 + 1 + i) σ) mt_X2_init rfl wd159 (host := "BakeryNight") (by decide) rfl ⟨Nat.le_of_ble_eq_true rfl, Nat.le_of_ble_eq_true rfl⟩ rfl (Nat.le_of_ble_eq_true rfl) dX1_init_30 ?_
    show WO (xat X (k0 + i + 1) (z0 + 10 * i + 10)) Qf _ σ _ _ _ o
    refine x_astR Cg (q := 5) (n := 6) (ci := 1) (N := 10) (k0 := 7) (a := 7 + 1 + i) (i := i) ⟨by show k0 + i + 1 ≤ 53; omega, by show z0 + 10 * i + 10 ≤ 1416; omega⟩ cls_X2 (by decide) rfl (Nat.lt_of_lt_of_le (by decide : xqi 7 < 7 + 2) (by omega)) rfl (by rw [xqi_up (by omega) (by omega)]; omega) hsh (ofN i).symm (by omega) (by decide) (rt_of ((by decide +kernel : ∀ i, i < 6 → ((rtL.getD 7 []).getD i 0 = 7 + 1 + i ∧ rkB 7 = true ∧ 7 + 1 + i ≠ 0)) i (by omega))) dX1_init_33 ?_
    rw [hM_S]
    refine x_iinc (L' := [(1, iV ((i + 1 : Nat) : Int)), (0, .ref (xqa (xXE X).2.2 6))]) C1 0 ((i + 1 : Nat) : Int) dX1_init_34 rfl (by omega) (by decide) rfl ?_
    refine x_goto C1 15 dX1_init_37 rfl ?_
    have e2 : z0 + 10 * i + 10 = z0 + 10 * (i + 1) := by omega
    rw [e2]
    exact ih (i + 1) (by omega)
theorem lq_X1_1_6 {ρ : Type} {X : xX} {Qf : ρ → State → Prop} {o : Option ρ} {h : Nat → Nat → Bool} {σ : xS} {k0 z0 : Nat} (Cg : xCg X cX1_init RX1 none { frames := 3, cells := 53, slots := 1416, locals := 72 } 2) (hfl : (xXE X).2.1.2.2 9 0 = 0) (hl : hlow (7 + 1) h) (hset : h 6 4 = true) (hz : ∀ k j, 6 < k → σ k j = 0) (hk : k0 + 6 ≤ 53) (hz0 : z0 + 10 * 6 ≤ 1416)
    (aft : WO (xat X (k0 + 6) (z0 + 10 * 6)) Qf (wP (7 + 2 + 6) (hM h 7 6)) σ 40 [(1, iV ((6 : Nat) : Int)), (0, .ref (xqa (xXE X).2.2 6))] [] o) : WO (xat X k0 z0) Qf (wP (7 + 2) h) σ 15 [(1, iV 0), (0, .ref (xqa (xXE X).2.2 6))] [] o := by
  have lp := lp_X1_1_6 Cg hfl hl hset hz hk hz0 aft 6 0 (by omega)
  rw [hM_0] at lp
  exact lp
set_option maxHeartbeats 4000000 in
set_option maxRecDepth 100000 in
theorem lp_X1_2_6 {ρ : Type} {X : xX} {Qf : ρ → State → Prop} {o : Option ρ} {h : Nat → Nat → Bool} {σ : xS} {k0 z0 : Nat} (Cg : xCg X cX1_init RX1 none { frames := 3, cells := 53, slots := 1416, locals := 72 } 2) (hfl : (xXE X).2.1.2.2 9 0 = 0) (hl : hlow (14 + 1) h) (hset : h 6 6 = true) (hz : ∀ k j, 6 < k → σ k j = 0) (hk : k0 + 4 ≤ 53) (hz0 : z0 + 4 * 4 ≤ 1416)
    (aft : WO (xat X (k0 + 4) (z0 + 4 * 4)) Qf (wP (14 + 2 + 4) (hM h 14 4)) σ 74 [(1, iV ((4 : Nat) : Int)), (0, .ref (xqa (xXE X).2.2 6))] [] o) : ∀ d i, i + d = 4 → WO (xat X (k0 + i) (z0 + 4 * i)) Qf (wP (14 + 2 + i) (hM h 14 i)) σ 50 [(1, iV (i : Int)), (0, .ref (xqa (xXE X).2.2 6))] [] o := by
  intro d
  induction d with
  | zero =>
    intro i hi
    obtain rfl : i = 4 := by omega
    have C := Cg (k0 + 4) (z0 + 4 * 4) hk hz0
    refine x_iload_n C 0 dX1_init_50 rfl rfl ?_
    refine x_iconst C (4) dX1_init_51 rfl ?_
    exact x_icmp_ge C 74 (zI_of (by omega) (by omega)) (zI_of (by omega) (by omega)) dX1_init_52 rfl (fun _ => aft) (fun c => absurd (by omega) c)
  | succ d ih =>
    intro i hi
    have C := Cg (k0 + i) (z0 + 4 * i) (by show k0 + i ≤ 53; omega) (by show z0 + 4 * i ≤ 1416; omega)
    refine x_iload_n C 0 dX1_init_50 rfl rfl ?_
    refine x_iconst C (4) dX1_init_51 rfl ?_
    refine x_icmp_ge C 74 (zI_of (by omega) (by omega)) (zI_of (by omega) (by omega)) dX1_init_52 rfl (fun c => absurd c (by omega)) (fun _ => ?_)
    refine x_aload_n C 1 dX1_init_55 rfl rfl ?_
    refine x_get (v := .ref (xqa (xXE X).2.2 14)) C 6 cls_X1 ⟨Nat.lt_of_lt_of_le (by decide : xqi 6 < 14 + 2) (by show 14 + 2 ≤ 14 + 2 + i; omega), rfl⟩ (by decide) wd356 rfl (xV_r (wP_ref (by rw [hM_ne (by omega)]; exact hset) (rt_of ⟨rfl, by decide, by decide⟩)) rfl) dX1_init_56 ?_
    refine x_iload_n C 0 dX1_init_59 rfl rfl ?_
    have hsh : WW.2.1 (14 + 1 + i) = (20 + 5, 4) := (by decide +kernel : ∀ i, i < 4 → WW.2.1 (14 + 1 + i) = (20 + 5, 4)) i (by omega)
    refine x_newO (m := 14 + 2 + i) ((xqi_up (by omega) (by omega)).trans (by omega)) Cg (c := 14 + 1 + i) cls_X6 hsh (fun j _ => by rw [hM_ne (by omega)]; exact hl _ _ (by omega)) (fun j _ => hz _ _ (by omega)) (by decide) hfl wd204 wd206 wd54 dX1_init_60 (by show k0 + i + 1 ≤ 53; omega) (by show z0 + 4 * i + 4 ≤ 1416; omega) ?_
    have C1 := Cg (k0 + i + 1) (z0 + 4 * i + 4) (by show k0 + i + 1 ≤ 53; omega) (by show z0 + 4 * i + 4 ≤ 1416; omega)
    refine x_dup C1 dX1_init_63 rfl ?_
    refine x_callIN Cg ⟨by show k0 + i + 1 ≤ 53; omega, by show z0 + 4 * i + 4 ≤ 1416; omega⟩ (ct_X6_init _ _ (14 + 1 + i) σ) mt_X6_init rfl wd208 (host := "BakeryNight") (by decide) rfl ⟨Nat.le_of_ble_eq_true rfl, Nat.le_of_ble_eq_true rfl⟩ rfl (Nat.le_of_ble_eq_true rfl) dX1_init_64 ?_
    show WO (xat X (k0 + i + 1) (z0 + 4 * i + 4)) Qf _ σ _ _ _ o
    refine x_astR Cg (q := 6) (n := 4) (ci := 5) (N := 4) (k0 := 14) (a := 14 + 1 + i) (i := i) ⟨by show k0 + i + 1 ≤ 53; omega, by show z0 + 4 * i + 4 ≤ 1416; omega⟩ cls_X6 (by decide) rfl (Nat.lt_of_lt_of_le (by decide : xqi 14 < 14 + 2) (by omega)) rfl (by rw [xqi_up (by omega) (by omega)]; omega) hsh (ofN i).symm (by omega) (by decide) (rt_of ((by decide +kernel : ∀ i, i < 4 → ((rtL.getD 14 []).getD i 0 = 14 + 1 + i ∧ rkB 14 = true ∧ 14 + 1 + i ≠ 0)) i (by omega))) dX1_init_67 ?_
    rw [hM_S]
    refine x_iinc (L' := [(1, iV ((i + 1 : Nat) : Int)), (0, .ref (xqa (xXE X).2.2 6))]) C1 0 ((i + 1 : Nat) : Int) dX1_init_68 rfl (by omega) (by decide) rfl ?_
    refine x_goto C1 50 dX1_init_71 rfl ?_
    have e2 : z0 + 4 * i + 4 = z0 + 4 * (i + 1) := by omega
    rw [e2]
    exact ih (i + 1) (by omega)
theorem lq_X1_2_6 {ρ : Type} {X : xX} {Qf : ρ → State → Prop} {o : Option ρ} {h : Nat → Nat → Bool} {σ : xS} {k0 z0 : Nat} (Cg : xCg X cX1_init RX1 none { frames := 3, cells := 53, slots := 1416, locals := 72 } 2) (hfl : (xXE X).2.1.2.2 9 0 = 0) (hl : hlow (14 + 1) h) (hset : h 6 6 = true) (hz : ∀ k j, 6 < k → σ k j = 0) (hk : k0 + 4 ≤ 53) (hz0 : z0 + 4 * 4 ≤ 1416)
    (aft : WO (xat X (k0 + 4) (z0 + 4 * 4)) Qf (wP (14 + 2 + 4) (hM h 14 4)) σ 74 [(1, iV ((4 : Nat) : Int)), (0, .ref (xqa (xXE X).2.2 6))] [] o) : WO (xat X k0 z0) Qf (wP (14 + 2) h) σ 50 [(1, iV 0), (0, .ref (xqa (xXE X).2.2 6))] [] o := by
  have lp := lp_X1_2_6 Cg hfl hl hset hz hk hz0 aft 4 0 (by omega)
  rw [hM_0] at lp
  exact lp
set_option maxHeartbeats 4000000 in
set_option maxRecDepth 100000 in
theorem lp_X1_3_6 {ρ : Type} {X : xX} {Qf : ρ → State → Prop} {o : Option ρ} {h : Nat → Nat → Bool} {σ : xS} {k0 z0 : Nat} (Cg : xCg X cX1_init RX1 none { frames := 3, cells := 53, slots := 1416, locals := 72 } 2) (hfl : (xXE X).2.1.2.2 9 0 = 0) (hl : hlow (19 + 1) h) (hset : h 6 12 = true) (hz : ∀ k j, 6 < k → σ k j = 0) (hk : k0 + 24 ≤ 53) (hz0 : z0 + 5 * 24 ≤ 1416)
    (aft : WO (xat X (k0 + 24) (z0 + 5 * 24)) Qf (wP (19 + 2 + 24) (hM h 19 24)) σ 110 [(1, iV ((24 : Nat) : Int)), (0, .ref (xqa (xXE X).2.2 6))] [] o) : ∀ d i, i + d = 24 → WO (xat X (k0 + i) (z0 + 5 * i)) Qf (wP (19 + 2 + i) (hM h 19 i)) σ 85 [(1, iV (i : Int)), (0, .ref (xqa (xXE X).2.2 6))] [] o := by
  intro d
  induction d with
  | zero =>
    intro i hi
    obtain rfl : i = 24 := by omega
    have C := Cg (k0 + 24) (z0 + 5 * 24) hk hz0
    refine x_iload_n C 0 dX1_init_85 rfl rfl ?_
    refine x_bipush C (24) dX1_init_86 rfl ?_
    exact x_icmp_ge C 110 (zI_of (by omega) (by omega)) (zI_of (by omega) (by omega)) dX1_init_88 rfl (fun _ => aft) (fun c => absurd (by omega) c)
  | succ d ih =>
    intro i hi
    have C := Cg (k0 + i) (z0 + 5 * i) (by show k0 + i ≤ 53; omega) (by show z0 + 5 * i ≤ 1416; omega)
    refine x_iload_n C 0 dX1_init_85 rfl rfl ?_
    refine x_bipush C (24) dX1_init_86 rfl ?_
    refine x_icmp_ge C 110 (zI_of (by omega) (by omega)) (zI_of (by omega) (by omega)) dX1_init_88 rfl (fun c => absurd c (by omega)) (fun _ => ?_)
    refine x_aload_n C 1 dX1_init_91 rfl rfl ?_
    refine x_get (v := .ref (xqa (xXE X).2.2 19)) C 12 cls_X1 ⟨Nat.lt_of_lt_of_le (by decide : xqi 6 < 19 + 2) (by show 19 + 2 ≤ 19 + 2 + i; omega), rfl⟩ (by decide) wd377 rfl (xV_r (wP_ref (by rw [hM_ne (by omega)]; exact hset) (rt_of ⟨rfl, by decide, by decide⟩)) rfl) dX1_init_92 ?_
    refine x_iload_n C 0 dX1_init_95 rfl rfl ?_
    have hsh : WW.2.1 (19 + 1 + i) = (20 + 4, 5) := (by decide +kernel : ∀ i, i < 24 → WW.2.1 (19 + 1 + i) = (20 + 4, 5)) i (by omega)
    refine x_newO (m := 19 + 2 + i) ((xqi_up (by omega) (by omega)).trans (by omega)) Cg (c := 19 + 1 + i) cls_X5 hsh (fun j _ => by rw [hM_ne (by omega)]; exact hl _ _ (by omega)) (fun j _ => hz _ _ (by omega)) (by decide) hfl wd231 wd233 wd55 dX1_init_96 (by show k0 + i + 1 ≤ 53; omega) (by show z0 + 5 * i + 5 ≤ 1416; omega) ?_
    have C1 := Cg (k0 + i + 1) (z0 + 5 * i + 5) (by show k0 + i + 1 ≤ 53; omega) (by show z0 + 5 * i + 5 ≤ 1416; omega)
    refine x_dup C1 dX1_init_99 rfl ?_
    refine x_callIN Cg ⟨by show k0 + i + 1 ≤ 53; omega, by show z0 + 5 * i + 5 ≤ 1416; omega⟩ (ct_X5_init _ _ (19 + 1 + i) σ) mt_X5_init rfl wd235 (host := "BakeryNight") (by decide) rfl ⟨Nat.le_of_ble_eq_true rfl, Nat.le_of_ble_eq_true rfl⟩ rfl (Nat.le_of_ble_eq_true rfl) dX1_init_100 ?_
    show WO (xat X (k0 + i + 1) (z0 + 5 * i + 5)) Qf _ σ _ _ _ o
    refine x_astR Cg (q := 7) (n := 24) (ci := 4) (N := 5) (k0 := 19) (a := 19 + 1 + i) (i := i) ⟨by show k0 + i + 1 ≤ 53; omega, by show z0 + 5 * i + 5 ≤ 1416; omega⟩ cls_X5 (by decide) rfl (Nat.lt_of_lt_of_le (by decide : xqi 19 < 19 + 2) (by omega)) rfl (by rw [xqi_up (by omega) (by omega)]; omega) hsh (ofN i).symm (by omega) (by decide) (rt_of ((by decide +kernel : ∀ i, i < 24 → ((rtL.getD 19 []).getD i 0 = 19 + 1 + i ∧ rkB 19 = true ∧ 19 + 1 + i ≠ 0)) i (by omega))) dX1_init_103 ?_
    rw [hM_S]
    refine x_iinc (L' := [(1, iV ((i + 1 : Nat) : Int)), (0, .ref (xqa (xXE X).2.2 6))]) C1 0 ((i + 1 : Nat) : Int) dX1_init_104 rfl (by omega) (by decide) rfl ?_
    refine x_goto C1 85 dX1_init_107 rfl ?_
    have e2 : z0 + 5 * i + 5 = z0 + 5 * (i + 1) := by omega
    rw [e2]
    exact ih (i + 1) (by omega)
theorem lq_X1_3_6 {ρ : Type} {X : xX} {Qf : ρ → State → Prop} {o : Option ρ} {h : Nat → Nat → Bool} {σ : xS} {k0 z0 : Nat} (Cg : xCg X cX1_init RX1 none { frames := 3, cells := 53, slots := 1416, locals := 72 } 2) (hfl : (xXE X).2.1.2.2 9 0 = 0) (hl : hlow (19 + 1) h) (hset : h 6 12 = true) (hz : ∀ k j, 6 < k → σ k j = 0) (hk : k0 + 24 ≤ 53) (hz0 : z0 + 5 * 24 ≤ 1416)
    (aft : WO (xat X (k0 + 24) (z0 + 5 * 24)) Qf (wP (19 + 2 + 24) (hM h 19 24)) σ 110 [(1, iV ((24 : Nat) : Int)), (0, .ref (xqa (xXE X).2.2 6))] [] o) : WO (xat X k0 z0) Qf (wP (19 + 2) h) σ 85 [(1, iV 0), (0, .ref (xqa (xXE X).2.2 6))] [] o := by
  have lp := lp_X1_3_6 Cg hfl hl hset hz hk hz0 aft 24 0 (by omega)
  rw [hM_0] at lp
  exact lp
set_option maxHeartbeats 4000000 in
set_option maxRecDepth 100000 in
theorem lp_X1_1_60 {ρ : Type} {X : xX} {Qf : ρ → State → Prop} {o : Option ρ} {h : Nat → Nat → Bool} {σ : xS} {k0 z0 : Nat} (Cg : xCg X cX1_init RX1 none { frames := 3, cells := 53, slots := 1416, locals := 72 } 2) (hfl : (xXE X).2.1.2.2 9 0 = 0) (hl : hlow (61 + 1) h) (hset : h 60 4 = true) (hz : ∀ k j, 60 < k → σ k j = 0) (hk : k0 + 6 ≤ 53) (hz0 : z0 + 10 * 6 ≤ 1416)
    (aft : WO (xat X (k0 + 6) (z0 + 10 * 6)) Qf (wP (61 + 2 + 6) (hM h 61 6)) σ 40 [(1, iV ((6 : Nat) : Int)), (0, .ref (xqa (xXE X).2.2 60))] [] o) : ∀ d i, i + d = 6 → WO (xat X (k0 + i) (z0 + 10 * i)) Qf (wP (61 + 2 + i) (hM h 61 i)) σ 15 [(1, iV (i : Int)), (0, .ref (xqa (xXE X).2.2 60))] [] o := by
  intro d
  induction d with
  | zero =>
    intro i hi
    obtain rfl : i = 6 := by omega
    have C := Cg (k0 + 6) (z0 + 10 * 6) hk hz0
    refine x_iload_n C 0 dX1_init_15 rfl rfl ?_
    refine x_bipush C (6) dX1_init_16 rfl ?_
    exact x_icmp_ge C 40 (zI_of (by omega) (by omega)) (zI_of (by omega) (by omega)) dX1_init_18 rfl (fun _ => aft) (fun c => absurd (by omega) c)
  | succ d ih =>
    intro i hi
    have C := Cg (k0 + i) (z0 + 10 * i) (by show k0 + i ≤ 53; omega) (by show z0 + 10 * i ≤ 1416; omega)
    refine x_iload_n C 0 dX1_init_15 rfl rfl ?_
    refine x_bipush C (6) dX1_init_16 rfl ?_
    refine x_icmp_ge C 40 (zI_of (by omega) (by omega)) (zI_of (by omega) (by omega)) dX1_init_18 rfl (fun c => absurd c (by omega)) (fun _ => ?_)
    refine x_aload_n C 1 dX1_init_21 rfl rfl ?_
    refine x_get (v := .ref (xqa (xXE X).2.2 61)) C 4 cls_X1 ⟨Nat.lt_of_lt_of_le (by decide : xqi 60 < 61 + 2) (by show 61 + 2 ≤ 61 + 2 + i; omega), rfl⟩ (by decide) wd349 rfl (xV_r (wP_ref (by rw [hM_ne (by omega)]; exact hset) (rt_of ⟨rfl, by decide, by decide⟩)) rfl) dX1_init_22 ?_
    refine x_iload_n C 0 dX1_init_25 rfl rfl ?_
    have hsh : WW.2.1 (61 + 1 + i) = (20 + 1, 10) := (by decide +kernel : ∀ i, i < 6 → WW.2.1 (61 + 1 + i) = (20 + 1, 10)) i (by omega)
    refine x_newO (m := 61 + 2 + i) ((xqi_up (by omega) (by omega)).trans (by omega)) Cg (c := 61 + 1 + i) cls_X2 hsh (fun j _ => by rw [hM_ne (by omega)]; exact hl _ _ (by omega)) (fun j _ => hz _ _ (by omega)) (by decide) hfl wd155 wd157 wd53 dX1_init_26 (by show k0 + i + 1 ≤ 53; omega) (by show z0 + 10 * i + 10 ≤ 1416; omega) ?_
    have C1 := Cg (k0 + i + 1) (z0 + 10 * i + 10) (by show k0 + i + 1 ≤ 53; omega) (by show z0 + 10 * i + 10 ≤ 1416; omega)
    refine x_dup C1 dX1_init_29 rfl ?_
    refine x_callIN Cg ⟨by show k0 + i + 1 ≤ 53; omega, by show z0 + 10 * i + 10 ≤ 1416; omega⟩ (ct_X2_init _ _ (61 + 1 + i) σ) mt_X2_init rfl wd159 (host := "BakeryNight") (by decide) rfl ⟨Nat.le_of_ble_eq_true rfl, Nat.le_of_ble_eq_true rfl⟩ rfl (Nat.le_of_ble_eq_true rfl) dX1_init_30 ?_
    show WO (xat X (k0 + i + 1) (z0 + 10 * i + 10)) Qf _ σ _ _ _ o
    refine x_astR Cg (q := 5) (n := 6) (ci := 1) (N := 10) (k0 := 61) (a := 61 + 1 + i) (i := i) ⟨by show k0 + i + 1 ≤ 53; omega, by show z0 + 10 * i + 10 ≤ 1416; omega⟩ cls_X2 (by decide) rfl (Nat.lt_of_lt_of_le (by decide : xqi 61 < 61 + 2) (by omega)) rfl (by rw [xqi_up (by omega) (by omega)]; omega) hsh (ofN i).symm (by omega) (by decide) (rt_of ((by decide +kernel : ∀ i, i < 6 → ((rtL.getD 61 []).getD i 0 = 61 + 1 + i ∧ rkB 61 = true ∧ 61 + 1 + i ≠ 0)) i (by omega))) dX1_init_33 ?_
    rw [hM_S]
    refine x_iinc (L' := [(1, iV ((i + 1 : Nat) : Int)), (0, .ref (xqa (xXE X).2.2 60))]) C1 0 ((i + 1 : Nat) : Int) dX1_init_34 rfl (by omega) (by decide) rfl ?_
    refine x_goto C1 15 dX1_init_37 rfl ?_
    have e2 : z0 + 10 * i + 10 = z0 + 10 * (i + 1) := by omega
    rw [e2]
    exact ih (i + 1) (by omega)
theorem lq_X1_1_60 {ρ : Type} {X : xX} {Qf : ρ → State → Prop} {o : Option ρ} {h : Nat → Nat → Bool} {σ : xS} {k0 z0 : Nat} (Cg : xCg X cX1_init RX1 none { frames := 3, cells := 53, slots := 1416, locals := 72 } 2) (hfl : (xXE X).2.1.2.2 9 0 = 0) (hl : hlow (61 + 1) h) (hset : h 60 4 = true) (hz : ∀ k j, 60 < k → σ k j = 0) (hk : k0 + 6 ≤ 53) (hz0 : z0 + 10 * 6 ≤ 1416)
    (aft : WO (xat X (k0 + 6) (z0 + 10 * 6)) Qf (wP (61 + 2 + 6) (hM h 61 6)) σ 40 [(1, iV ((6 : Nat) : Int)), (0, .ref (xqa (xXE X).2.2 60))] [] o) : WO (xat X k0 z0) Qf (wP (61 + 2) h) σ 15 [(1, iV 0), (0, .ref (xqa (xXE X).2.2 60))] [] o := by
  have lp := lp_X1_1_60 Cg hfl hl hset hz hk hz0 aft 6 0 (by omega)
  rw [hM_0] at lp
  exact lp
set_option maxHeartbeats 4000000 in
set_option maxRecDepth 100000 in
theorem lp_X1_2_60 {ρ : Type} {X : xX} {Qf : ρ → State → Prop} {o : Option ρ} {h : Nat → Nat → Bool} {σ : xS} {k0 z0 : Nat} (Cg : xCg X cX1_init RX1 none { frames := 3, cells := 53, slots := 1416, locals := 72 } 2) (hfl : (xXE X).2.1.2.2 9 0 = 0) (hl : hlow (68 + 1) h) (hset : h 60 6 = true) (hz : ∀ k j, 60 < k → σ k j = 0) (hk : k0 + 4 ≤ 53) (hz0 : z0 + 4 * 4 ≤ 1416)
    (aft : WO (xat X (k0 + 4) (z0 + 4 * 4)) Qf (wP (68 + 2 + 4) (hM h 68 4)) σ 74 [(1, iV ((4 : Nat) : Int)), (0, .ref (xqa (xXE X).2.2 60))] [] o) : ∀ d i, i + d = 4 → WO (xat X (k0 + i) (z0 + 4 * i)) Qf (wP (68 + 2 + i) (hM h 68 i)) σ 50 [(1, iV (i : Int)), (0, .ref (xqa (xXE X).2.2 60))] [] o := by
  intro d
  induction d with
  | zero =>
    intro i hi
    obtain rfl : i = 4 := by omega
    have C := Cg (k0 + 4) (z0 + 4 * 4) hk hz0
    refine x_iload_n C 0 dX1_init_50 rfl rfl ?_
    refine x_iconst C (4) dX1_init_51 rfl ?_
    exact x_icmp_ge C 74 (zI_of (by omega) (by omega)) (zI_of (by omega) (by omega)) dX1_init_52 rfl (fun _ => aft) (fun c => absurd (by omega) c)
  | succ d ih =>
    intro i hi
    have C := Cg (k0 + i) (z0 + 4 * i) (by show k0 + i ≤ 53; omega) (by show z0 + 4 * i ≤ 1416; omega)
    refine x_iload_n C 0 dX1_init_50 rfl rfl ?_
    refine x_iconst C (4) dX1_init_51 rfl ?_
    refine x_icmp_ge C 74 (zI_of (by omega) (by omega)) (zI_of (by omega) (by omega)) dX1_init_52 rfl (fun c => absurd c (by omega)) (fun _ => ?_)
    refine x_aload_n C 1 dX1_init_55 rfl rfl ?_
    refine x_get (v := .ref (xqa (xXE X).2.2 68)) C 6 cls_X1 ⟨Nat.lt_of_lt_of_le (by decide : xqi 60 < 68 + 2) (by show 68 + 2 ≤ 68 + 2 + i; omega), rfl⟩ (by decide) wd356 rfl (xV_r (wP_ref (by rw [hM_ne (by omega)]; exact hset) (rt_of ⟨rfl, by decide, by decide⟩)) rfl) dX1_init_56 ?_
    refine x_iload_n C 0 dX1_init_59 rfl rfl ?_
    have hsh : WW.2.1 (68 + 1 + i) = (20 + 5, 4) := (by decide +kernel : ∀ i, i < 4 → WW.2.1 (68 + 1 + i) = (20 + 5, 4)) i (by omega)
    refine x_newO (m := 68 + 2 + i) ((xqi_up (by omega) (by omega)).trans (by omega)) Cg (c := 68 + 1 + i) cls_X6 hsh (fun j _ => by rw [hM_ne (by omega)]; exact hl _ _ (by omega)) (fun j _ => hz _ _ (by omega)) (by decide) hfl wd204 wd206 wd54 dX1_init_60 (by show k0 + i + 1 ≤ 53; omega) (by show z0 + 4 * i + 4 ≤ 1416; omega) ?_
    have C1 := Cg (k0 + i + 1) (z0 + 4 * i + 4) (by show k0 + i + 1 ≤ 53; omega) (by show z0 + 4 * i + 4 ≤ 1416; omega)
    refine x_dup C1 dX1_init_63 rfl ?_
    refine x_callIN Cg ⟨by show k0 + i + 1 ≤ 53; omega, by show z0 + 4 * i + 4 ≤ 1416; omega⟩ (ct_X6_init _ _ (68 + 1 + i) σ) mt_X6_init rfl wd208 (host := "BakeryNight") (by decide) rfl ⟨Nat.le_of_ble_eq_true rfl, Nat.le_of_ble_eq_true rfl⟩ rfl (Nat.le_of_ble_eq_true rfl) dX1_init_64 ?_
    show WO (xat X (k0 + i + 1) (z0 + 4 * i + 4)) Qf _ σ _ _ _ o
    refine x_astR Cg (q := 6) (n := 4) (ci := 5) (N := 4) (k0 := 68) (a := 68 + 1 + i) (i := i) ⟨by show k0 + i + 1 ≤ 53; omega, by show z0 + 4 * i + 4 ≤ 1416; omega⟩ cls_X6 (by decide) rfl (Nat.lt_of_lt_of_le (by decide : xqi 68 < 68 + 2) (by omega)) rfl (by rw [xqi_up (by omega) (by omega)]; omega) hsh (ofN i).symm (by omega) (by decide) (rt_of ((by decide +kernel : ∀ i, i < 4 → ((rtL.getD 68 []).getD i 0 = 68 + 1 + i ∧ rkB 68 = true ∧ 68 + 1 + i ≠ 0)) i (by omega))) dX1_init_67 ?_
    rw [hM_S]
    refine x_iinc (L' := [(1, iV ((i + 1 : Nat) : Int)), (0, .ref (xqa (xXE X).2.2 60))]) C1 0 ((i + 1 : Nat) : Int) dX1_init_68 rfl (by omega) (by decide) rfl ?_
    refine x_goto C1 50 dX1_init_71 rfl ?_
    have e2 : z0 + 4 * i + 4 = z0 + 4 * (i + 1) := by omega
    rw [e2]
    exact ih (i + 1) (by omega)
theorem lq_X1_2_60 {ρ : Type} {X : xX} {Qf : ρ → State → Prop} {o : Option ρ} {h : Nat → Nat → Bool} {σ : xS} {k0 z0 : Nat} (Cg : xCg X cX1_init RX1 none { frames := 3, cells := 53, slots := 1416, locals := 72 } 2) (hfl : (xXE X).2.1.2.2 9 0 = 0) (hl : hlow (68 + 1) h) (hset : h 60 6 = true) (hz : ∀ k j, 60 < k → σ k j = 0) (hk : k0 + 4 ≤ 53) (hz0 : z0 + 4 * 4 ≤ 1416)
    (aft : WO (xat X (k0 + 4) (z0 + 4 * 4)) Qf (wP (68 + 2 + 4) (hM h 68 4)) σ 74 [(1, iV ((4 : Nat) : Int)), (0, .ref (xqa (xXE X).2.2 60))] [] o) : WO (xat X k0 z0) Qf (wP (68 + 2) h) σ 50 [(1, iV 0), (0, .ref (xqa (xXE X).2.2 60))] [] o := by
  have lp := lp_X1_2_60 Cg hfl hl hset hz hk hz0 aft 4 0 (by omega)
  rw [hM_0] at lp
  exact lp
set_option maxHeartbeats 4000000 in
set_option maxRecDepth 100000 in
theorem lp_X1_3_60 {ρ : Type} {X : xX} {Qf : ρ → State → Prop} {o : Option ρ} {h : Nat → Nat → Bool} {σ : xS} {k0 z0 : Nat} (Cg : xCg X cX1_init RX1 none { frames := 3, cells := 53, slots := 1416, locals := 72 } 2) (hfl : (xXE X).2.1.2.2 9 0 = 0) (hl : hlow (73 + 1) h) (hset : h 60 12 = true) (hz : ∀ k j, 60 < k → σ k j = 0) (hk : k0 + 24 ≤ 53) (hz0 : z0 + 5 * 24 ≤ 1416)
    (aft : WO (xat X (k0 + 24) (z0 + 5 * 24)) Qf (wP (73 + 2 + 24) (hM h 73 24)) σ 110 [(1, iV ((24 : Nat) : Int)), (0, .ref (xqa (xXE X).2.2 60))] [] o) : ∀ d i, i + d = 24 → WO (xat X (k0 + i) (z0 + 5 * i)) Qf (wP (73 + 2 + i) (hM h 73 i)) σ 85 [(1, iV (i : Int)), (0, .ref (xqa (xXE X).2.2 60))] [] o := by
  intro d
  induction d with
  | zero =>
    intro i hi
    obtain rfl : i = 24 := by omega
    have C := Cg (k0 + 24) (z0 + 5 * 24) hk hz0
    refine x_iload_n C 0 dX1_init_85 rfl rfl ?_
    refine x_bipush C (24) dX1_init_86 rfl ?_
    exact x_icmp_ge C 110 (zI_of (by omega) (by omega)) (zI_of (by omega) (by omega)) dX1_init_88 rfl (fun _ => aft) (fun c => absurd (by omega) c)
  | succ d ih =>
    intro i hi
    have C := Cg (k0 + i) (z0 + 5 * i) (by show k0 + i ≤ 53; omega) (by show z0 + 5 * i ≤ 1416; omega)
    refine x_iload_n C 0 dX1_init_85 rfl rfl ?_
    refine x_bipush C (24) dX1_init_86 rfl ?_
    refine x_icmp_ge C 110 (zI_of (by omega) (by omega)) (zI_of (by omega) (by omega)) dX1_init_88 rfl (fun c => absurd c (by omega)) (fun _ => ?_)
    refine x_aload_n C 1 dX1_init_91 rfl rfl ?_
    refine x_get (v := .ref (xqa (xXE X).2.2 73)) C 12 cls_X1 ⟨Nat.lt_of_lt_of_le (by decide : xqi 60 < 73 + 2) (by show 73 + 2 ≤ 73 + 2 + i; omega), rfl⟩ (by decide) wd377 rfl (xV_r (wP_ref (by rw [hM_ne (by omega)]; exact hset) (rt_of ⟨rfl, by decide, by decide⟩)) rfl) dX1_init_92 ?_
    refine x_iload_n C 0 dX1_init_95 rfl rfl ?_
    have hsh : WW.2.1 (73 + 1 + i) = (20 + 4, 5) := (by decide +kernel : ∀ i, i < 24 → WW.2.1 (73 + 1 + i) = (20 + 4, 5)) i (by omega)
    refine x_newO (m := 73 + 2 + i) ((xqi_up (by omega) (by omega)).trans (by omega)) Cg (c := 73 + 1 + i) cls_X5 hsh (fun j _ => by rw [hM_ne (by omega)]; exact hl _ _ (by omega)) (fun j _ => hz _ _ (by omega)) (by decide) hfl wd231 wd233 wd55 dX1_init_96 (by show k0 + i + 1 ≤ 53; omega) (by show z0 + 5 * i + 5 ≤ 1416; omega) ?_
    have C1 := Cg (k0 + i + 1) (z0 + 5 * i + 5) (by show k0 + i + 1 ≤ 53; omega) (by show z0 + 5 * i + 5 ≤ 1416; omega)
    refine x_dup C1 dX1_init_99 rfl ?_
    refine x_callIN Cg ⟨by show k0 + i + 1 ≤ 53; omega, by show z0 + 5 * i + 5 ≤ 1416; omega⟩ (ct_X5_init _ _ (73 + 1 + i) σ) mt_X5_init rfl wd235 (host := "BakeryNight") (by decide) rfl ⟨Nat.le_of_ble_eq_true rfl, Nat.le_of_ble_eq_true rfl⟩ rfl (Nat.le_of_ble_eq_true rfl) dX1_init_100 ?_
    show WO (xat X (k0 + i + 1) (z0 + 5 * i + 5)) Qf _ σ _ _ _ o
    refine x_astR Cg (q := 7) (n := 24) (ci := 4) (N := 5) (k0 := 73) (a := 73 + 1 + i) (i := i) ⟨by show k0 + i + 1 ≤ 53; omega, by show z0 + 5 * i + 5 ≤ 1416; omega⟩ cls_X5 (by decide) rfl (Nat.lt_of_lt_of_le (by decide : xqi 73 < 73 + 2) (by omega)) rfl (by rw [xqi_up (by omega) (by omega)]; omega) hsh (ofN i).symm (by omega) (by decide) (rt_of ((by decide +kernel : ∀ i, i < 24 → ((rtL.getD 73 []).getD i 0 = 73 + 1 + i ∧ rkB 73 = true ∧ 73 + 1 + i ≠ 0)) i (by omega))) dX1_init_103 ?_
    rw [hM_S]
    refine x_iinc (L' := [(1, iV ((i + 1 : Nat) : Int)), (0, .ref (xqa (xXE X).2.2 60))]) C1 0 ((i + 1 : Nat) : Int) dX1_init_104 rfl (by omega) (by decide) rfl ?_
    refine x_goto C1 85 dX1_init_107 rfl ?_
    have e2 : z0 + 5 * i + 5 = z0 + 5 * (i + 1) := by omega
    rw [e2]
    exact ih (i + 1) (by omega)
theorem lq_X1_3_60 {ρ : Type} {X : xX} {Qf : ρ → State → Prop} {o : Option ρ} {h : Nat → Nat → Bool} {σ : xS} {k0 z0 : Nat} (Cg : xCg X cX1_init RX1 none { frames := 3, cells := 53, slots := 1416, locals := 72 } 2) (hfl : (xXE X).2.1.2.2 9 0 = 0) (hl : hlow (73 + 1) h) (hset : h 60 12 = true) (hz : ∀ k j, 60 < k → σ k j = 0) (hk : k0 + 24 ≤ 53) (hz0 : z0 + 5 * 24 ≤ 1416)
    (aft : WO (xat X (k0 + 24) (z0 + 5 * 24)) Qf (wP (73 + 2 + 24) (hM h 73 24)) σ 110 [(1, iV ((24 : Nat) : Int)), (0, .ref (xqa (xXE X).2.2 60))] [] o) : WO (xat X k0 z0) Qf (wP (73 + 2) h) σ 85 [(1, iV 0), (0, .ref (xqa (xXE X).2.2 60))] [] o := by
  have lp := lp_X1_3_60 Cg hfl hl hset hz hk hz0 aft 24 0 (by omega)
  rw [hM_0] at lp
  exact lp
