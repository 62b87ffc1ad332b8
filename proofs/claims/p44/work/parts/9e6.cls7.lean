/-! the class alone: a street closed: what else doesn't change -/
section CLS7
variable {σ τ : xS} {n b : Nat} {β γ δ : Nat → Int} {f e : Int}
theorem Vd_c (hV : Vd β) (v : β 4 ≤ 6) (h : ∀ i, i = 4 ∨ (10 ≤ i ∧ i < 70) → δ i = β i) : Vd δ := fun d hd => by
  rw [h 4 (by omega)] at hd
  have e : ∀ w, w < 10 → dF δ d w = dF β d w := fun w hw => h _ (by omega)
  rw [e 0 (by omega), e 1 (by omega), e 2 (by omega), e 3 (by omega), e 4 (by omega), e 5 (by omega), e 6 (by omega), e 7 (by omega), e 8 (by omega), e 9 (by omega)]
  exact hV d hd
theorem Vo_c (hV : Vo β) (v : β 5 ≤ 4) (h : ∀ i, i = 5 ∨ (70 ≤ i ∧ i < 86) → δ i = β i) : Vo δ := fun o ho => by
  rw [h 5 (by omega)] at ho
  have e : ∀ w, w < 4 → ovF δ o w = ovF β o w := fun w hw => h _ (by omega)
  rw [e 0 (by omega), e 1 (by omega), e 2 (by omega), e 3 (by omega)]
  exact hV o ho
theorem Vs_c (hV : Vs β) (v : β 7 ≤ 20) (h : ∀ i, i = 6 ∨ i = 7 ∨ (86 ≤ i ∧ i < 166) → δ i = β i) : Vs δ := fun o ho => by
  rw [h 7 (by omega)] at ho
  have e : ∀ w, w < 4 → stF δ o w = stF β o w := fun w hw => h _ (by omega)
  rw [e 0 (by omega), e 1 (by omega), e 2 (by omega), e 3 (by omega), h 6 (by omega)]
  exact hV o ho
theorem Vv_c (hV : Vv β) (v : β 8 ≤ 3) (h : ∀ i, i = 8 ∨ (166 ≤ i ∧ i < 169) → δ i = β i) : Vv δ := fun o ho => by
  rw [h 8 (by omega)] at ho
  rw [show vnF δ o = vnF β o from h _ (by omega)]
  exact hV o ho
theorem Vr_c (hV : Vr β) (v : β 9 ≤ 24) (h : ∀ i, i = 4 ∨ i = 6 ∨ i = 9 ∨ (169 ≤ i ∧ i < 289) → δ i = β i) : Vr δ := fun o ho => by
  rw [h 9 (by omega)] at ho
  have e : ∀ w, w < 5 → oF δ o w = oF β o w := fun w hw => h _ (by omega)
  rw [e 0 (by omega), e 1 (by omega), e 2 (by omega), e 3 (by omega), e 4 (by omega), h 6 (by omega), h 4 (by omega)]
  exact hV o ho
/-- a street's mark changes -/
theorem V_street {o : Nat} {v : Int} (hV : V β) (hv : v = 0 ∨ v = 1) (hd : ∀ i, i ≠ 86 + 4 * o + 3 → δ i = β i) (h0 : δ (86 + 4 * o + 3) = v) (ho : o < 20) : V δ := by
  obtain ⟨v0, v1, v2, v3, v4, v5, v6, v7, v8, v9, vd, vo, vs, vv, vr⟩ := hV
  refine ⟨by rw [hd _ (by omega)]; exact v0, by rw [hd _ (by omega)]; exact v1, by rw [hd _ (by omega)]; exact v2, by rw [hd _ (by omega)]; exact v3, by rw [hd _ (by omega)]; exact v4, by rw [hd _ (by omega)]; exact v5, by rw [hd _ (by omega)]; exact v6, by rw [hd _ (by omega)]; exact v7, by rw [hd _ (by omega)]; exact v8, by rw [hd _ (by omega)]; exact v9, Vd_c vd v4.2 (fun i hi => hd i (by omega)), Vo_c vo v5.2 (fun i hi => hd i (by omega)), fun o' ho' => ?_, Vv_c vv v8.2 (fun i hi => hd i (by omega)), Vr_c vr v9.2 (fun i hi => hd i (by omega))⟩
  rw [hd 7 (by omega)] at ho'
  have oo := vs o' ho'
  have e : ∀ w, w < 3 → stF δ o' w = stF β o' w := fun w hw => hd _ (by omega)
  rw [e 0 (by omega), e 1 (by omega), e 2 (by omega), hd 6 (by omega)]
  refine ⟨oo.1, oo.2.1, oo.2.2.1, oo.2.2.2.1, ?_⟩
  by_cases d : o' = o
  · subst d
    rw [show stF δ o' 3 = v from h0]
    exact hv
  · rw [show stF δ o' 3 = stF β o' 3 from hd _ (by omega)]
    exact oo.2.2.2.2
/-- all of a bakery but its streets -/
def NoS (β δ : Nat → Int) : Prop := (∀ i, i < 86 → δ i = β i) ∧ (∀ i, 166 ≤ i → δ i = β i) ∧ ∀ i, 86 ≤ i → i < 166 → (i + 1) % 4 ≠ 2 → δ i = β i
theorem NoS_of {o : Nat} (ho : o < 20) (hd : ∀ i, i ≠ 86 + 4 * o + 3 → δ i = β i) : NoS β δ := ⟨fun i hi => hd i (by omega), fun i hi => hd i (by omega), fun i h1 h2 h3 => hd i (by omega)⟩
section SAMEN
theorem s_oF (hS : NoS β δ) : oF δ = oF β := by
  funext o w
  exact hS.2.1 _ (by omega)
theorem s_loaves (hS : NoS β δ) (d : Int) : loavesF δ d = loavesF β d := by
  have e9 := hS.1 9 (by omega)
  have e : ∀ o w, oF δ o w = oF β o w := fun o w => hS.2.1 _ (by omega)
  simp only [loavesF, e, e9]
theorem s_due (hS : NoS β δ) (z d : Int) : dueF z δ d = dueF z β d := by
  have e9 := hS.1 9 (by omega)
  have e : ∀ o w, oF δ o w = oF β o w := fun o w => hS.2.1 _ (by omega)
  simp only [dueF, e, e9]
theorem s_ahead (hS : NoS β δ) (o : Nat) : aheadF δ o = aheadF β o := by
  have e9 := hS.1 9 (by omega)
  have e : ∀ o w, oF δ o w = oF β o w := fun o w => hS.2.1 _ (by omega)
  have ea : ∀ k, aheadB δ k o = aheadB β k o := fun k => by unfold aheadB; rw [e, e]
  unfold aheadF
  rw [e9]
  refine sumTo_congr (fun k hk => ?_)
  rw [e, e, e, e, ea]
theorem s_batches (hS : NoS β δ) {d : Nat} (hd : d < 7) : batchesF δ d = batchesF β d := by
  unfold batchesF
  rw [s_loaves hS, show dF δ d 7 = dF β d 7 from hS.1 _ (by omega)]
theorem s_blT (hS : NoS β δ) (hV : V β) : ∀ k, blT δ k = blT β k
  | 0 => rfl
  | k + 1 => by
    have v4 := hV.2.2.2.2.1
    have e4 := hS.1 4 (by omega)
    have e : (fun d : Nat => dueF 1440 δ (d : Int)) = fun d : Nat => dueF 1440 β (d : Int) := by
      funext d
      exact s_due hS 1440 d
    rw [blT, blT, s_blT hS hV k, e, e4]
    cases q : pickT (fun d : Nat => dueF 1440 β (d : Int)) (blT β k).1 (β 4).toNat with
    | none => rfl
    | some p =>
      have hp := (pickT_some q).1
      dsimp only
      rw [s_batches hS (by omega)]
theorem s_bl (hS : NoS β δ) (hV : V β) : bl δ = bl β := by
  unfold bl
  rw [s_blT hS hV, hS.1 4 (by omega)]
theorem s_all (hS : NoS β δ) (hV : V β) : allF δ = allF β := by
  have v4 := hV.2.2.2.2.1
  unfold allF
  rw [hS.1 4 (by omega)]
  exact sumTo_congr (fun d hd => s_batches hS (by omega))
theorem s_d (hV : V β) (b : Nat) : (bl β).getD b 0 < 6 := by
  have v4 := hV.2.2.2.2.1
  by_cases h : b < (bl β).length
  · have := bl_d hV h
    omega
  · rw [List.getD_eq_getElem?_getD, List.getElem?_eq_none (by omega)]
    show 0 < 6
    omega
theorem s_tm (hS : NoS β δ) (hV : V β) : tmF δ = tmF β := by
  funext b w
  have hd := s_d hV b
  have e : ∀ x, x < 8 → dF δ ((bl β).getD b 0) x = dF β ((bl β).getD b 0) x := fun x hx => hS.1 _ (by omega)
  have e0 := hS.1 0 (by omega)
  unfold tmF
  rw [s_bl hS hV]
  match w with
  | 0 => exact e 0 (by omega)
  | 1 =>
    show upD (24 * dF δ ((bl β).getD b 0) 1) (δ 0) = upD (24 * dF β ((bl β).getD b 0) 1) (β 0)
    rw [e 1 (by omega), e0]
  | 2 => exact e 2 (by omega)
  | 3 =>
    show upD (24 * dF δ ((bl β).getD b 0) 3) (δ 0) = upD (24 * dF β ((bl β).getD b 0) 3) (β 0)
    rw [e 3 (by omega), e0]
  | 4 => exact e 4 (by omega)
  | 5 => exact e 5 (by omega)
  | _ + 6 => exact e 6 (by omega)
end SAMEN
/-- ovens alike, but for marks of ovens that aren't there -/
def OvS (v : Nat) (O O' : Nat → Nat → Int) : Prop := ∀ o w, (w < 3 ∨ (w = 3 ∧ o < v)) → O' o w = O o w
section SAMEM
variable {T O O' : Nat → Nat → Int} {l v : Nat} {m k : Int}
theorem o_free (h : OvS v O O') (N : Nat → Nat → Int) (x t : Int) : freeI (T, O', l, v, m, k) N x t = freeI (T, O, l, v, m, k) N x t := by
  refine firstTo_congr (fun i hi => ?_)
  have hi' : i < v := hi
  have e3 : O' i 3 = O i 3 := h i 3 (Or.inr ⟨rfl, hi'⟩)
  have e0 : O' i 0 = O i 0 := h i 0 (Or.inl (by omega))
  show (decide (O' i 3 = 0) && decide (N 6 i ≤ t) && decide (N 5 i = x) && decide (used (T, O', l, v, m, k) N i t < O' i 0)) = (decide (O i 3 = 0) && decide (N 6 i ≤ t) && decide (N 5 i = x) && decide (used (T, O, l, v, m, k) N i t < O i 0))
  rw [e3, e0]
  rfl
theorem o_need (h : OvS v O O') (N : Nat → Nat → Int) (x : Int) (o : Nat) : need (T, O', l, v, m, k) N x o = need (T, O, l, v, m, k) N x o := by
  have e2 : O' o 2 = O o 2 := h o 2 (Or.inl (by omega))
  show upD _ (O' o 2) = upD _ (O o 2)
  rw [e2]
theorem o_can (h : OvS v O O') (N : Nat → Nat → Int) (t : Int) {o : Nat} (ho : o < v) : canCh (T, O', l, v, m, k) N t o = canCh (T, O, l, v, m, k) N t o := by
  have e3 : O' o 3 = O o 3 := h o 3 (Or.inr ⟨rfl, ho⟩)
  show (decide (N 6 o ≤ t) && decide (O' o 3 = 0) && decide (used (T, O', l, v, m, k) N o t = 0)) = (decide (N 6 o ≤ t) && decide (O o 3 = 0) && decide (used (T, O, l, v, m, k) N o t = 0))
  rw [e3]
  rfl
theorem o_best (h : OvS v O O') (N : Nat → Nat → Int) (x t : Int) : ∀ j, j ≤ v → bestO (T, O', l, v, m, k) N x t j = bestO (T, O, l, v, m, k) N x t j
  | 0, _ => rfl
  | j + 1, hj => by
    rw [bestO, bestO, o_can h N t (by omega), o_best h N x t j (by omega)]
    simp only [o_need h]
theorem o_set (h : OvS v O O') (N : Nat → Nat → Int) (x t : Int) (c : Nat) : setCh (T, O', l, v, m, k) N x t c = setCh (T, O, l, v, m, k) N x t c := by
  unfold setCh
  rw [o_need h]
theorem o_change (h : OvS v O O') (N : Nat → Nat → Int) (x t : Int) : changeO (T, O', l, v, m, k) N x t = changeO (T, O, l, v, m, k) N x t := by
  have e := o_best (T := T) (l := l) (m := m) (k := k) h N x t v (Nat.le_refl _)
  have ec : chgI (T, O', l, v, m, k) N x t = chgI (T, O, l, v, m, k) N x t := rfl
  unfold changeO
  rw [ec]
  show (if _ then N else match bestO (T, O', l, v, m, k) N x t v with | none => N | some c => setCh (T, O', l, v, m, k) N x t c) = (if _ then N else match bestO (T, O, l, v, m, k) N x t v with | none => N | some c => setCh (T, O, l, v, m, k) N x t c)
  rw [e]
  cases bestO (T, O, l, v, m, k) N x t v with
  | none => rfl
  | some c => dsimp only; rw [o_set h]
theorem o_bake (h : OvS v O O') (t : Int) (A : NK) (b : Nat) : bakeS (T, O', l, v, m, k) t A b = bakeS (T, O, l, v, m, k) t A b := by
  unfold bakeS
  show (if freeI (T, O', l, v, m, k) A.1 (T b 6) t < v then (xput (xput A.1 2 b t) 4 b (freeI (T, O', l, v, m, k) A.1 (T b 6) t : Nat), A.2) else (changeO (T, O', l, v, m, k) A.1 (T b 6) t, A.2 ++ [b])) = (if freeI (T, O, l, v, m, k) A.1 (T b 6) t < v then (xput (xput A.1 2 b t) 4 b (freeI (T, O, l, v, m, k) A.1 (T b 6) t : Nat), A.2) else (changeO (T, O, l, v, m, k) A.1 (T b 6) t, A.2 ++ [b]))
  rw [o_free h, o_change h]
theorem o_step (h : OvS v O O') (t : Int) (M : NS) : mstep (T, O', l, v, m, k) t M = mstep (T, O, l, v, m, k) t M := by
  have e : bakeS (T, O', l, v, m, k) t = bakeS (T, O, l, v, m, k) t := by
    funext A b
    exact o_bake h t A b
  have eb : ∀ N Q, bakeR (T, O', l, v, m, k) t N Q = bakeR (T, O, l, v, m, k) t N Q := fun N Q => by
    unfold bakeR
    rw [e]
  unfold mstep
  dsimp only
  simp only [eb]
  rfl
theorem o_Mt (h : OvS v O O') : ∀ j, Mt (T, O', l, v, m, k) j = Mt (T, O, l, v, m, k) j
  | 0 => by
    show M0 (T, O', l, v, m, k) = M0 (T, O, l, v, m, k)
    unfold M0
    have e : ∀ o, pO (T, O', l, v, m, k) o 1 = pO (T, O, l, v, m, k) o 1 := fun o => h o 1 (Or.inl (by omega))
    simp only [e]
  | j + 1 => by
    show mstep (T, O', l, v, m, k) j (Mt (T, O', l, v, m, k) j) = mstep (T, O, l, v, m, k) j (Mt (T, O, l, v, m, k) j)
    rw [o_Mt h j, o_step h]
end SAMEM
theorem s_Mf (hS : NoS β δ) (hV : V β) : Mf (prm δ) = Mf (prm β) := by
  have v5 := hV.2.2.2.2.2.1
  have hO : OvS (β 5).toNat (fun o w => ovF β o w) (fun o w => ovF δ o w) := fun o w hw => by
    by_cases c : 70 + 4 * o + w < 86
    · exact hS.1 _ c
    · by_cases d : 166 ≤ 70 + 4 * o + w
      · exact hS.2.1 _ d
      · refine hS.2.2 _ (by omega) (by omega) (by omega)
  unfold Mf prm
  rw [s_tm hS hV, s_bl hS hV, hS.1 5 (by omega), hS.1 2 (by omega), hS.1 3 (by omega)]
  exact o_Mt hO 124001
theorem s_tak (hS : NoS β δ) (hV : V β) {d : Nat} (hd : d < 7) (l : Int) : takF δ ((Mf (prm β)).1) d l = takF β ((Mf (prm β)).1) d l := by
  have e7 : dF δ d 7 = dF β d 7 := hS.1 _ (by omega)
  have ebk : ∀ b, bkB δ ((Mf (prm β)).1) d b = bkB β ((Mf (prm β)).1) d b := fun b => by
    unfold bkB
    rw [s_bl hS hV]
  have ecb : ∀ k, cbF δ ((Mf (prm β)).1) d k = cbF β ((Mf (prm β)).1) d k := fun k => by
    simp only [cbF, ebk]
  have ei : takI δ ((Mf (prm β)).1) d l = takI β ((Mf (prm β)).1) d l := by
    simp only [takI, ebk, ecb, e7, s_bl hS hV]
  unfold takF
  rw [ei, s_bl hS hV, show pT (prm δ) = tmF δ from rfl, s_tm hS hV]
  rfl
theorem s_rdy (hS : NoS β δ) (hV : V β) {o : Nat} (ho : (o : Int) < β 9) : rdyF δ ((Mf (prm β)).1) o = rdyF β ((Mf (prm β)).1) o := by
  have v4 := hV.2.2.2.2.1
  have vr := hV.2.2.2.2.2.2.2.2.2.2.2.2.2.2 o ho
  have e : ∀ w, oF δ o w = oF β o w := fun w => hS.2.1 _ (by omega)
  unfold rdyF
  rw [e 4, e 1, e 2, s_ahead hS, s_tak hS hV (by omega), hS.1 1 (by omega)]
theorem s_lt (hS : NoS β δ) (hV : V β) : ltV δ δ 0 = ltV δ β 0 := by
  have v9 := hV.2.2.2.2.2.2.2.2.2.1
  have e9 := hS.1 9 (by omega)
  have e : ∀ o w, oF δ o w = oF β o w := fun o w => hS.2.1 _ (by omega)
  have em : ∀ s o, mtB δ s o = mtB β s o := fun s o => by simp only [mtB, e]
  have hM := s_Mf hS hV
  have exc : ∀ (f g : Nat → Bool) (k : Nat), (∀ o, o < k → f o = g o) → exB k f = exB k g := fun f g k => by
    induction k with
    | zero => intro _; rfl
    | succ k ih => intro h; rw [exB, exB, ih (fun o ho => h o (by omega)), h k (by omega)]
  have ems : msF δ ((Mf (prm β)).1) (β 9).toNat = msF β ((Mf (prm β)).1) (β 9).toNat := by
    unfold msF
    congr 1
    funext s
    refine exc _ _ _ (fun o ho => ?_)
    rw [em, s_rdy hS hV (by omega)]
  have eod : odF δ (β 9).toNat = odF β (β 9).toNat := by
    simp only [odF, em]
  have mxc : ∀ (f g : Nat → Int) (k : Nat), (∀ o, o < k → f o = g o) → maxTo k f = maxTo k g := fun f g k => by
    induction k with
    | zero => intro _; rfl
    | succ k ih => intro h; rw [maxTo, maxTo, ih (fun o ho => h o (by omega)), h k (by omega)]
  have erd : rdC 0 δ ((Mf (prm β)).1) (β 9).toNat = rdC 0 β ((Mf (prm β)).1) (β 9).toNat := by
    funext s
    refine mxc _ _ _ (fun o ho => ?_)
    rw [em, s_rdy hS hV (by omega)]
  have edu : duC 1439 δ (β 9).toNat = duC 1439 β (β 9).toNat := by
    funext s
    simp only [duC, em, e]
  have eld : ldC δ (β 9).toNat = ldC β (β 9).toNat := by
    funext s
    simp only [ldC, em, e]
  have esr : srvF δ ((Mf (prm β)).1) = srvF β ((Mf (prm β)).1) := by
    unfold srvF
    rw [e9, ems, eod]
  have hX : PX δ δ 0 0 1439 = PX δ β 0 0 1439 := by
    unfold PX
    rw [hM, e9, esr, erd, edu, eld, hS.1 6 (by omega), hS.1 8 (by omega)]
  unfold ltV
  rw [hX, hM, e9, ems]
end CLS7
