/-! the reference's best plan and latest start, the loops -/
section PLE
variable {P : PP} {σ τ : xS} {k n i : Nat} {f : Int}
def qOkB (P : PP) (i : Nat) : Bool := fzB (fun v => pLo (qL P) (qG P i v)) (qC P) (qV P) && fzB (fun v => rsF (qD P) (qS P) (qG P i v) 7) (fun _ => 999999) (qV P)
theorem qOkB_iff : qOkB P i = true ↔ qOk P i := by
  unfold qOkB qOk
  rw [Bool.and_eq_true, fzB_iff, fzB_iff]
  constructor
  · intro h v hv
    have := h.2 v hv
    exact ⟨h.1 v hv, by omega⟩
  · intro h
    exact ⟨fun v hv => (h v hv).1, fun v hv => by have := (h v hv).2; omega⟩
/-- how many assignments the reference goes through -/
def qN (P : PP) : Nat := pwA (qM P) (v1 (qV P)) 7
def qBr (P : PP) (f : Int) : Int := bsI (qOkB P) (qLr P f) (qMi P) (qN P)
def qTr (P : PP) : Int := bsS (qOkB P) (qSr P) (qN P)
theorem qN_bd (hP : PPV P) : 1 ≤ qN P ∧ qN P ≤ 2187 := by
  have hm := bcN_le (PP_m hP)
  have hV := v1_le hP.2.2.2.1
  have hp := v1_pos (qV P)
  have ht : pwA (qM P) (v1 (qV P)) 7 = (v1 (qV P)) ^ bcN (qM P) := pw_tab ⟨qM P, PP_m hP⟩ ⟨v1 (qV P), by omega⟩
  unfold qN
  rw [ht]
  have h1 : (v1 (qV P)) ^ bcN (qM P) ≤ 3 ^ bcN (qM P) := Nat.pow_le_pow_left hV _
  have h2 : 3 ^ bcN (qM P) ≤ 3 ^ 7 := Nat.pow_le_pow_right (by omega) hm
  have h3 : 0 < (v1 (qV P)) ^ bcN (qM P) := Nat.pow_pos hp
  omega
theorem qLr_bd (f : Int) (i : Nat) : 0 ≤ qLr P f i ∧ qLr P f i ≤ 7 := by
  have := sumTo_bd (n := 7) (f := fun s => if (qM P).testBit s = true ∧ qU P s < f + qAr P i s (qA P i s) then (1 : Int) else 0) (lo := 0) (hi := 1) (fun i hi => by split <;> omega)
  unfold qLr
  omega
theorem qSr_bd (hP : PPV P) (i : Nat) : -8000000 ≤ qSr P i ∧ qSr P i ≤ 1439 := by
  unfold qSr
  refine ⟨minTo_ge (by omega) _ fun l hl => ?_, minTo_le _⟩
  have h1 := qAr_bd hP i l (qA P i l)
  have h2 := (hP.2.2.2.2.1 l hl).1
  try dsimp only
  split <;> omega
/-- the best found: what the reference notes of it -/
def BR (σ : xS) (P : PP) (f : Int) (B : Int) : Prop := σ 184 52 = (if B = -1 then -1 else qLr P f B.toNat) ∧ (B ≠ -1 → σ 184 53 = qMi P B.toNat ∧ ∀ s, s < 7 → σ 214 s = if (qM P).testBit s = true then (qA P B.toNat s : Int) else -1)
/-- what an assignment's loop changes -/
def pfr2 (σ τ : xS) : Prop := ∀ a j, ¬ (a = 207 ∨ (211 ≤ a ∧ a ≤ 214)) → ¬ (a = 184 ∧ (j = 42 ∨ j = 52 ∨ j = 53)) → τ a j = σ a j
theorem r_plansLoop (hR : RP σ k P) (hk : 185 ≤ k ∧ k ≤ 187) (hP : PPV P) (hA : AR σ (qM P) (qA P 0)) (h52 : σ 184 52 = -1) (hf : 0 ≤ f ∧ f ≤ 1439) (hv1 : qM P = 0 ∨ v1 (qV P) = qV P) (hn : 4000000 ≤ n) :
    OK (loopF (fun rec9 (t8 : Int × xS) => if (zI t8.1) = 0 then xlet (if (zI (t8.2 184 52)) = (-1) then 0 else 1) fun v12 => xbo v12 (some (v12, t8.2)) else xbS (m_X13_drives n k t8.2) fun v16 s15 => xj (fun (q20 : Int) => xj (fun (q23 : xS) => xbS (m_X13_nextAssignment n k q23) fun v25 s24 => rec9 (v25, s24)) fun J21 => if (zI v16) = (-1) then J21 s15 else xj (fun (q31 : Unit) => xlet (xput s15 184 52 q20) fun s32 => xlet (xput s32 184 53 v16) fun s33 => loopF (fun rec35 (t34 : Int × xS) => if 7 ≤ (zI t34.1) then J21 t34.2 else xck (zI t34.1) 7 <| xck (zI t34.1) 7 <| xlet (xput t34.2 214 (zI t34.1).toNat (t34.2 212 (zI t34.1).toNat)) fun s38 => xlet (t34.1 + 1) fun v39 => rec35 (v39, s38)) n (0, s33)) fun J29 => if (zI (s15 184 52)) = (-1) then J29 () else if (zI q20) < (zI (s15 184 52)) then J29 () else if (zI q20) = (zI (s15 184 52)) then if (zI (s15 184 53)) ≤ (zI v16) then J21 s15 else J29 () else J21 s15) fun J18 => if (zI v16) = (-1) then J18 1000000 else (m_X13_lateShops n f s15).bind fun v45 => J18 v45) n (1, σ))
      (fun x => x.1 = (if qBr P f = -1 then 0 else 1) ∧ BR x.2 P f (qBr P f) ∧ pfr2 σ x.2) := by
  have hN := qN_bd hP
  have hV := hP.2.2.2.1
  refine loop_for (qN P) (fun i (t : Int × xS) => t.1 = (if i < qN P then 1 else 0) ∧ (i < qN P → AR t.2 (qM P) (qA P i)) ∧ BR t.2 P f (bsI (qOkB P) (qLr P f) (qMi P) i) ∧ pfr2 σ t.2) ?_ ?_ (by omega) ⟨(if_pos (by omega)).symm, fun _ => hA, ⟨h52, fun h => absurd rfl h⟩, fun _ _ _ _ => rfl⟩
  · rintro i ⟨u, t⟩ hi ⟨h1, h2, h3, h4⟩ rec hrec
    dsimp only at h1 h2 h3 h4 hrec ⊢
    rw [if_pos hi] at h1
    subst h1
    have hAt := h2 hi
    have hRt : RP t k P := RP_same hR hk (fun a j h => h4 a j (by omega) (by omega))
    rw [zI_of (n := 1) (by omega) (by omega), if_neg (by omega)]
    refine OK_xbS (r_drives hRt hk hP hAt.1 hn) (fun v s h => ?_)
    obtain ⟨hd, hf2⟩ := h
    dsimp only at hd hf2
    have hRs : RP s k P := RP_same hRt hk (fun a j h => hf2 a j (by omega) (by omega) (by omega))
    have hAs : AR s (qM P) (qA P i) := ⟨fun u hu => by rw [hf2 _ _ (by omega) (by omega) (by omega)]; exact hAt.1 u hu, fun z hz => by rw [hf2 _ _ (by omega) (by omega) (by omega)]; exact hAt.2 z hz⟩
    have hbs : bsI (qOkB P) (qLr P f) (qMi P) (i + 1) = if qOkB P i = true ∧ (bsI (qOkB P) (qLr P f) (qMi P) i = -1 ∨ qLr P f i < qLr P f (bsI (qOkB P) (qLr P f) (qMi P) i).toNat ∨ (qLr P f i = qLr P f (bsI (qOkB P) (qLr P f) (qMi P) i).toNat ∧ qMi P i < qMi P (bsI (qOkB P) (qLr P f) (qMi P) i).toNat)) then (i : Int) else bsI (qOkB P) (qLr P f) (qMi P) i := rfl
    have hbd := bsI_bd (qOkB P) (qLr P f) (qMi P) i
    generalize hBB : bsI (qOkB P) (qLr P f) (qMi P) i = B at h3 hbs hbd
    have h3s : BR s P f B := by
      refine ⟨by rw [hf2 _ _ (by omega) (by omega) (by omega)]; exact h3.1, fun z => ⟨by rw [hf2 _ _ (by omega) (by omega) (by omega)]; exact (h3.2 z).1, fun y hy => by rw [hf2 _ _ (by omega) (by omega) (by omega)]; exact (h3.2 z).2 y hy⟩⟩
    have hps : pfr2 σ s := fun a j c1 c2 => by rw [hf2 _ _ (by omega) (by omega) (by omega)]; exact h4 a j c1 c2
    have hnext : ∀ s' : xS, RP s' k P → AR s' (qM P) (qA P i) → BR s' P f (bsI (qOkB P) (qLr P f) (qMi P) (i + 1)) → pfr2 σ s' → OK (xbS (m_X13_nextAssignment n k s') fun v25 s24 => rec (v25, s24)) (fun x => x.1 = (if qBr P f = -1 then 0 else 1) ∧ BR x.2 P f (qBr P f) ∧ pfr2 σ x.2) := fun s' a1 a2 a3 a4 => by
      refine OK_xbS (r_nextAssignment a1.2.2.2.1 (PP_m hP) ⟨v1_pos _, v1_le hV⟩ hk a1.2.2.2.2.1 a2 (qA_lt i) hn) (fun v2 s2 h => ?_)
      obtain ⟨y1, y2, y3⟩ := h
      dsimp only at y1 y2 y3
      have hmore := asA_more (m := qM P) (v1_pos (qV P)) (i := i) hi
      refine hrec _ ⟨?_, fun _ => y2, ⟨?_, fun z => ⟨?_, fun s hs => ?_⟩⟩, fun a j c1 c2 => ?_⟩
      · dsimp only
        rw [y1]
        unfold qA
        rw [hmore]
        by_cases c : i + 1 < qN P
        · rw [if_pos c, decide_eq_true (show i + 1 < pwA (qM P) (v1 (qV P)) 7 from c), if_pos rfl]
        · rw [if_neg c, decide_eq_false (show ¬ i + 1 < pwA (qM P) (v1 (qV P)) 7 from c), if_neg (by decide)]
      · dsimp only
        rw [y3 _ _ (by omega) (by omega)]
        exact a3.1
      · dsimp only
        rw [y3 _ _ (by omega) (by omega)]
        exact (a3.2 z).1
      · dsimp only
        rw [y3 _ _ (by omega) (by omega)]
        exact (a3.2 z).2 s hs
      · dsimp only
        rw [y3 _ _ (by omega) (by omega)]
        exact a4 a j c1 c2
    have hstay : bsI (qOkB P) (qLr P f) (qMi P) (i + 1) = B → OK (xbS (m_X13_nextAssignment n k s) fun v25 s24 => rec (v25, s24)) (fun x => x.1 = (if qBr P f = -1 then 0 else 1) ∧ BR x.2 P f (qBr P f) ∧ pfr2 σ x.2) := fun e => hnext s hRs hAs (by rw [e]; exact h3s) hps
    rw [xj_eq]
    rcases hd with ⟨d1, d2, d3⟩ | ⟨d1, d2⟩
    · subst d2
      have hmi := qMi_bd hP i
      have hlr := qLr_bd (P := P) f i
      have hAV : AV s P i := AV_of d3 hv1
      have hok : qOkB P i = true := qOkB_iff.mpr d1
      rw [zI_of (n := qMi P i) (by omega) (by omega), if_neg (by omega), r_lateShops hAV hRs.2.2.1 hRs.2.2.2.1 hP hf hn, bind_some']
      dsimp only
      rw [xj_eq, if_neg (by omega), xj_eq, zI_of (n := qLr P f i) (by omega) (by omega)]
      have hgo : bsI (qOkB P) (qLr P f) (qMi P) (i + 1) = (i : Int) → OK ((fun (_ : Unit) => xlet (xput s 184 52 (qLr P f i)) fun s32 => xlet (xput s32 184 53 (qMi P i)) fun s33 => loopF (fun rec35 (t34 : Int × xS) => if 7 ≤ (zI t34.1) then (xbS (m_X13_nextAssignment n k t34.2) fun v25 s24 => rec (v25, s24)) else xck (zI t34.1) 7 <| xck (zI t34.1) 7 <| xlet (xput t34.2 214 (zI t34.1).toNat (t34.2 212 (zI t34.1).toNat)) fun s38 => xlet (t34.1 + 1) fun v39 => rec35 (v39, s38)) n (0, s33)) ()) (fun x => x.1 = (if qBr P f = -1 then 0 else 1) ∧ BR x.2 P f (qBr P f) ∧ pfr2 σ x.2) := fun e => by
        show OK (loopF _ n (0, xput (xput s 184 52 (qLr P f i)) 184 53 (qMi P i))) _
        refine loop_for 7 (fun l (y : Int × xS) => y.1 = (l : Int) ∧ (∀ z, z < l → y.2 214 z = if (qM P).testBit z = true then (qA P i z : Int) else -1) ∧ y.2 184 52 = qLr P f i ∧ y.2 184 53 = qMi P i ∧ (∀ a j, a ≠ 214 → ¬ (a = 184 ∧ (j = 52 ∨ j = 53)) → y.2 a j = s a j)) ?_ ?_ (by omega) ⟨rfl, fun z hz => absurd hz (Nat.not_lt_zero _), ?_, ?_, fun a j c1 c2 => ?_⟩
        · rintro l ⟨w, y⟩ hl ⟨g1, g2, g3, g4, g5⟩ rec2 hrec2
          dsimp only at g1 g2 g3 g4 g5 hrec2 ⊢
          subst g1
          have e12 : y 212 l = if (qM P).testBit l = true then (qA P i l : Int) else -1 := by rw [g5 _ _ (by omega) (by omega)]; exact hAs.2 l hl
          rw [zI_of (n := (l : Int)) (by omega) (by omega), if_neg (by omega), xck_of (by omega) (by omega), xck_of (by omega) (by omega), xlet_eq, xlet_eq, tn_cast, e12]
          refine hrec2 _ ⟨by (try dsimp only); omega, fun z hz => ?_, ?_, ?_, fun a j c1 c2 => ?_⟩
          · dsimp only
            by_cases d : z = l
            · rw [d, xput_eq]
            · rw [xput_ne (by omega)]
              exact g2 z (by omega)
          · dsimp only
            rw [xput_ne (by omega)]
            exact g3
          · dsimp only
            rw [xput_ne (by omega)]
            exact g4
          · dsimp only
            rw [xput_ne (by omega)]
            exact g5 a j c1 c2
        · rintro ⟨w, y⟩ ⟨g1, g2, g3, g4, g5⟩ rec2
          dsimp only at g1 g2 g3 g4 g5 ⊢
          subst g1
          rw [zI_of (n := ((7 : Nat) : Int)) (by omega) (by omega), if_pos (by omega)]
          refine hnext y (RP_same hRs hk (fun a j h => g5 a j (by omega) (by omega))) ⟨fun u hu => by rw [g5 _ _ (by omega) (by omega)]; exact hAs.1 u hu, fun z hz => by rw [g5 _ _ (by omega) (by omega)]; exact hAs.2 z hz⟩ ?_ (fun a j c1 c2 => by rw [g5 _ _ (by omega) (by omega)]; exact hps a j c1 c2)
          rw [e]
          refine ⟨by rw [g3, if_neg (by omega), tn_cast], fun _ => ⟨by rw [g4, tn_cast], fun z hz => by rw [tn_cast]; exact g2 z hz⟩⟩
        · dsimp only
          rw [xput_ne (by omega), xput_eq]
        · dsimp only
          rw [xput_eq]
        · dsimp only
          rw [xput_ne (by omega), xput_ne (by omega)]
      by_cases cB : B = -1
      · have e0 : s 184 52 = -1 := by rw [h3s.1, if_pos cB]
        simp only [e0]
        rw [zI_of (n := -1) (by omega) (by omega), if_pos rfl]
        exact hgo (by rw [hbs, if_pos ⟨hok, Or.inl cB⟩])
      · have e0 : s 184 52 = qLr P f B.toNat := by rw [h3s.1, if_neg cB]
        have e53 := (h3s.2 cB).1
        have hlB := qLr_bd (P := P) f B.toNat
        have hmB := qMi_bd hP B.toNat
        simp only [e0, e53]
        rw [zI_of (n := qLr P f B.toNat) (by omega) (by omega), if_neg (by omega), zI_of (n := qMi P B.toNat) (by omega) (by omega)]
        by_cases c1 : qLr P f i < qLr P f B.toNat
        · rw [if_pos c1]
          exact hgo (by rw [hbs, if_pos ⟨hok, Or.inr (Or.inl c1)⟩])
        · rw [if_neg c1]
          by_cases c2 : qLr P f i = qLr P f B.toNat
          · rw [if_pos c2]
            by_cases c3 : qMi P B.toNat ≤ qMi P i
            · rw [if_pos c3]
              exact hstay (by rw [hbs, if_neg (by omega)])
            · rw [if_neg c3]
              exact hgo (by rw [hbs, if_pos ⟨hok, Or.inr (Or.inr ⟨c2, by omega⟩)⟩])
          · rw [if_neg c2]
            exact hstay (by rw [hbs, if_neg (by omega)])
    · subst d2
      have hok : ¬ qOkB P i = true := fun h => d1 (qOkB_iff.mp h)
      rw [zI_of (n := -1) (by omega) (by omega), if_pos rfl]
      dsimp only
      rw [xj_eq, if_pos rfl]
      exact hstay (by rw [hbs, if_neg (fun h => hok h.1)])
  · rintro ⟨u, t⟩ ⟨h1, h2, h3, h4⟩ rec
    dsimp only at h1 h2 h3 h4 ⊢
    rw [if_neg (Nat.lt_irrefl _)] at h1
    subst h1
    rw [zI_of (n := 0) (by omega) (by omega), if_pos rfl]
    have hb := bsI_bd (qOkB P) (qLr P f) (qMi P) (qN P)
    have hlB := qLr_bd (P := P) f (qBr P f).toNat
    have h3' : BR t P f (qBr P f) := h3
    by_cases cB : qBr P f = -1
    · have e0 : t 184 52 = -1 := by rw [h3'.1, if_pos cB]
      simp only [e0]
      rw [zI_of (n := -1) (by omega) (by omega), if_pos rfl, xlet_eq, xbo_0]
      exact OK_some ⟨(if_pos cB).symm, h3', h4⟩
    · have e0 : t 184 52 = qLr P f (qBr P f).toNat := by rw [h3'.1, if_neg cB]
      simp only [e0]
      rw [zI_of (by omega) (by omega), if_neg (by omega), xlet_eq, xbo_1]
      exact OK_some ⟨(if_neg cB).symm, h3', h4⟩
theorem r_latestLoop (hR : RP σ k P) (hk : 185 ≤ k ∧ k ≤ 187) (hP : PPV P) (hA : AR σ (qM P) (qA P 0)) (hv1 : qM P = 0 ∨ v1 (qV P) = qV P) (hn : 4000000 ≤ n) :
    OK (loopF (fun rec14 (t13 : Int × Int × xS) => if (zI t13.2.1) = 0 then xlet (if 0 ≤ (zI t13.1) then t13.1 else (-1)) fun v17 => some (v17, t13.2.2) else xbS (m_X13_drives n k t13.2.2) fun v21 s20 => xj (fun (q25 : Int) => xbS (m_X13_nextAssignment n k s20) fun v27 s26 => rec14 (q25, v27, s26)) fun J23 => if (zI v21) = (-1) then J23 t13.1 else (m_X13_slack n s20).bind fun v29 => xlet (m_X13_greater t13.1 v29) fun v30 => J23 v30) n ((-1), 1, σ))
      (fun x => x.1 = qTr P ∧ pfr2 σ x.2) := by
  have hN := qN_bd hP
  have hV := hP.2.2.2.1
  have hSb : ∀ i, -1 ≤ bsS (qOkB P) (qSr P) i ∧ bsS (qOkB P) (qSr P) i ≤ 1439 := fun i => by
    induction i with
    | zero => exact ⟨Int.le_refl _, by show (-1 : Int) ≤ 1439; omega⟩
    | succ i ih =>
      have h := qSr_bd hP i
      rw [bsS]
      split <;> omega
  refine loop_for (qN P) (fun i (t : Int × Int × xS) => t.1 = bsS (qOkB P) (qSr P) i ∧ t.2.1 = (if i < qN P then 1 else 0) ∧ (i < qN P → AR t.2.2 (qM P) (qA P i)) ∧ pfr2 σ t.2.2) ?_ ?_ (by omega) ⟨rfl, (if_pos (by omega)).symm, fun _ => hA, fun _ _ _ _ => rfl⟩
  · rintro i ⟨x, u, t⟩ hi ⟨h0, h1, h2, h4⟩ rec hrec
    dsimp only at h0 h1 h2 h4 hrec ⊢
    rw [if_pos hi] at h1
    subst h0 h1
    have hAt := h2 hi
    have hRt : RP t k P := RP_same hR hk (fun a j h => h4 a j (by omega) (by omega))
    rw [zI_of (n := 1) (by omega) (by omega), if_neg (by omega)]
    refine OK_xbS (r_drives hRt hk hP hAt.1 hn) (fun v s h => ?_)
    obtain ⟨hd, hf2⟩ := h
    dsimp only at hd hf2
    have hRs : RP s k P := RP_same hRt hk (fun a j h => hf2 a j (by omega) (by omega) (by omega))
    have hAs : AR s (qM P) (qA P i) := ⟨fun u hu => by rw [hf2 _ _ (by omega) (by omega) (by omega)]; exact hAt.1 u hu, fun z hz => by rw [hf2 _ _ (by omega) (by omega) (by omega)]; exact hAt.2 z hz⟩
    have hps : pfr2 σ s := fun a j c1 c2 => by rw [hf2 _ _ (by omega) (by omega) (by omega)]; exact h4 a j c1 c2
    have hbs : bsS (qOkB P) (qSr P) (i + 1) = if qOkB P i = true then max (bsS (qOkB P) (qSr P) i) (qSr P i) else bsS (qOkB P) (qSr P) i := rfl
    have hnext : ∀ w, w = bsS (qOkB P) (qSr P) (i + 1) → OK (xbS (m_X13_nextAssignment n k s) fun v27 s26 => rec (w, v27, s26)) (fun x => x.1 = qTr P ∧ pfr2 σ x.2) := fun w hw => by
      refine OK_xbS (r_nextAssignment hRs.2.2.2.1 (PP_m hP) ⟨v1_pos _, v1_le hV⟩ hk hRs.2.2.2.2.1 hAs (qA_lt i) hn) (fun v2 s2 h => ?_)
      obtain ⟨y1, y2, y3⟩ := h
      dsimp only at y1 y2 y3
      have hmore := asA_more (m := qM P) (v1_pos (qV P)) (i := i) hi
      refine hrec _ ⟨hw, ?_, fun _ => y2, fun a j c1 c2 => ?_⟩
      · dsimp only
        rw [y1]
        unfold qA
        rw [hmore]
        by_cases c : i + 1 < qN P
        · rw [if_pos c, decide_eq_true (show i + 1 < pwA (qM P) (v1 (qV P)) 7 from c), if_pos rfl]
        · rw [if_neg c, decide_eq_false (show ¬ i + 1 < pwA (qM P) (v1 (qV P)) 7 from c), if_neg (by decide)]
      · dsimp only
        rw [y3 _ _ (by omega) (by omega)]
        exact hps a j c1 c2
    have hSi := hSb i
    rw [xj_eq]
    rcases hd with ⟨d1, d2, d3⟩ | ⟨d1, d2⟩
    · subst d2
      have hmi := qMi_bd hP i
      have hsl := qSr_bd hP i
      have hAV : AV s P i := AV_of d3 hv1
      have hok : qOkB P i = true := qOkB_iff.mpr d1
      rw [zI_of (n := qMi P i) (by omega) (by omega), if_neg (by omega), r_slack hAV hRs.2.2.1 hRs.2.2.2.1 hP hn, bind_some', xlet_eq, r_greater (by omega) (by omega) (by omega) (by omega)]
      exact hnext _ (by rw [hbs, if_pos hok])
    · subst d2
      have hok : ¬ qOkB P i = true := fun h => d1 (qOkB_iff.mp h)
      rw [zI_of (n := -1) (by omega) (by omega), if_pos rfl]
      exact hnext _ (by rw [hbs, if_neg hok])
  · rintro ⟨x, u, t⟩ ⟨h0, h1, h2, h4⟩ rec
    dsimp only at h0 h1 h2 h4 ⊢
    rw [if_neg (Nat.lt_irrefl _)] at h1
    subst h0 h1
    have h := hSb (qN P)
    rw [zI_of (n := 0) (by omega) (by omega), if_pos rfl, zI_of (n := bsS (qOkB P) (qSr P) (qN P)) (by omega) (by omega)]
    simp only [xlet_eq]
    by_cases c : 0 ≤ bsS (qOkB P) (qSr P) (qN P)
    · rw [if_pos c]
      exact OK_some ⟨rfl, h4⟩
    · rw [if_neg c]
      refine OK_some ⟨?_, h4⟩
      show (-1 : Int) = bsS (qOkB P) (qSr P) (qN P)
      omega
end PLE
