/-! the reference's minute: what has ended, what spoils -/
def RR (σ : xS) (β : Nat → Int) (M : NS) (u : Int) : Prop :=
  σ 184 19 = ((bl β).length : Int) ∧ (∀ b, b < (bl β).length → RB σ β M.1 u b) ∧ (∀ o : Nat, (o : Int) < β 5 → RO σ M.1 u o) ∧ RQ σ 184 27 199 M.2.1 ∧ RQ σ 184 29 200 M.2.2.1
def eEn (P : NP) (N : Nat → Nat → Int) (u : Int) (b : Nat) : Int := if N 3 b ≠ -1 then N 3 b else if N 2 b ≠ -1 ∧ N 2 b + pT P b 5 ≤ u then N 2 b + pT P b 5 else 0
def endE (P : NP) (N : Nat → Nat → Int) (u : Int) : Nat → Int
  | 0 => 0
  | k + 1 => max (endE P N u k) (eEn P N u k)
def wmF (P : NP) (N : Nat → Nat → Int) : Int := sumTo (pn P) (fun b => if N 0 b ≠ -1 then N 0 b else 0)
def wbF (P : NP) (N : Nat → Nat → Int) : Int := sumTo (pn P) (fun b => if N 1 b ≠ -1 then N 1 b - rE P N b else 0)
def woF (P : NP) (N : Nat → Nat → Int) : Int := sumTo (pn P) (fun b => if N 2 b ≠ -1 then N 2 b - pE P N b else if N 3 b ≠ -1 then N 3 b - pE P N b else 0)
def RX (σ : xS) (β : Nat → Int) (M : NS) (u t : Int) : Prop :=
  RR σ β M u ∧ σ 184 34 = t ∧ σ 184 35 = endE (prm β) M.1 u (bl β).length ∧ σ 184 36 = wmF (prm β) M.1 ∧ σ 184 37 = wbF (prm β) M.1 ∧ σ 184 38 = woF (prm β) M.1
/-- what the reference's night leaves alone -/
def rfr (σ σ' : xS) : Prop := ∀ a j, (a < 184 ∨ (184 < a ∧ a < 192) ∨ 204 < a ∨ (a = 184 ∧ j ≠ 19 ∧ j ≠ 27 ∧ j ≠ 29 ∧ j ≠ 34 ∧ j ≠ 35 ∧ j ≠ 36 ∧ j ≠ 37 ∧ j ≠ 38)) → σ' a j = σ a j
theorem rfr.row {σ σ' : xS} (h : rfr σ σ') {k : Nat} (hk : 185 ≤ k ∧ k ≤ 187) : σ' k = σ k := funext fun j => h k j (by omega)
theorem rfr.trans {a b c : xS} (h1 : rfr a b) (h2 : rfr b c) : rfr a c := fun k j hk => (h2 k j hk).trans (h1 k j hk)
theorem phF_congr {P : NP} {N N' : Nat → Nat → Int} {u : Int} {b : Nat} (h : ∀ r, r ≤ 3 → N' r b = N r b) : phF P N' u b = phF P N u b := by
  unfold phF
  rw [h 0 (by omega), h 1 (by omega), h 2 (by omega), h 3 (by omega), rE_congr (h 0 (by omega)), pE_congr (h 1 (by omega))]
theorem RB_of {σ σ' : xS} {β : Nat → Int} {N N' : Nat → Nat → Int} {u : Int} {c : Nat} (h : RB σ β N u c) (hN : ∀ r, r ≤ 4 → N' r c = N r c) (h2 : σ' 192 c = σ 192 c) (h3 : σ' 193 c = σ 193 c) (h4 : σ' 194 c = σ 194 c) (h5 : ∀ r, r < 6 → σ' 195 (6 * c + r) = σ 195 (6 * c + r)) (h6 : σ' 196 c = σ 196 c) (h7 : σ' 197 c = σ 197 c) (h8 : σ' 198 c = σ 198 c) : RB σ' β N' u c := by
  have e := phF_congr (P := prm β) (u := u) (N := N) (N' := N') (b := c) (fun r hr => hN r (by omega))
  have eR := rE_congr (P := prm β) (hN 0 (by omega))
  have eP := pE_congr (P := prm β) (hN 1 (by omega))
  obtain ⟨q0, q1, u1, u2, u4, u5, u7, s0, s1, s2, s3, s4, s5, q4, p7, p8⟩ := h
  unfold RB
  rw [e, eR, eP, hN 0 (by omega), hN 1 (by omega), hN 2 (by omega), hN 4 (by omega), h2, h3, h4, h5 0 (by omega), h5 1 (by omega), h5 2 (by omega), h5 3 (by omega), h5 4 (by omega), h5 5 (by omega), h6, h7, h8]
  exact ⟨q0, q1, u1, u2, u4, u5, u7, s0, s1, s2, s3, s4, s5, q4, p7, p8⟩
theorem endE_le {P : NP} {N : Nat → Nat → Int} {u x : Int} (hx : 0 ≤ x) : ∀ k, (∀ b, b < k → eEn P N u b ≤ x) → endE P N u k ≤ x
  | 0, _ => hx
  | k + 1, h => by
    have := endE_le hx k (fun b hb => h b (by omega))
    have := h k (by omega)
    rw [endE]
    omega
theorem endE_ge {P : NP} {N : Nat → Nat → Int} {u : Int} : ∀ k b, b < k → eEn P N u b ≤ endE P N u k
  | 0, b, h => absurd h (Nat.not_lt_zero _)
  | k + 1, b, h => by
    rw [endE]
    by_cases e : b = k
    · subst e; omega
    · have := endE_ge (P := P) (N := N) (u := u) k b (by omega)
      omega
theorem endE_congr {P : NP} {N N' : Nat → Nat → Int} {u u' : Int} : ∀ k, (∀ b, b < k → eEn P N' u' b = eEn P N u b) → endE P N' u' k = endE P N u k
  | 0, _ => rfl
  | k + 1, h => by rw [endE, endE, endE_congr k (fun b hb => h b (by omega)), h k (by omega)]
theorem endE_nn {P : NP} {N : Nat → Nat → Int} {u : Int} : ∀ k, 0 ≤ endE P N u k
  | 0 => Int.le_refl _
  | k + 1 => by
    have := endE_nn (P := P) (N := N) (u := u) k
    rw [endE]
    omega
section RNM
variable {σ : xS} {k n : Nat} {β : Nat → Int} {u t : Int} {N : Nat → Nat → Int} {M : NS}
theorem filter_succ (p : Nat → Bool) (i : Nat) : (List.range (i + 1)).filter p = (List.range i).filter p ++ (if p i = true then [i] else []) := by
  rw [List.range_succ, List.filter_append]
  by_cases h : p i = true
  · rw [if_pos h, List.filter_cons_of_pos h]; rfl
  · rw [if_neg h, List.filter_cons_of_neg h]; rfl
theorem r_endsAll (hk : 185 ≤ k ∧ k ≤ 187) (hβ : σ k = β) (hV : V β) (hP : PV (prm β)) (I : Minv (prm β) t M) (hX : RX σ β M (t - 1) t) (hn : 4000000 ≤ n) (ht : 0 ≤ t ∧ t ≤ 150000) :
    OK (m_X13_endsAll n k σ) (fun σ' => RX σ' β (M.1, sQs (prm β) t M, sQo (prm β) t M, M.2.2.2) t t ∧ rfr σ σ') := by
  have h60 : (bl β).length ≤ 60 := hP.2.2.1
  have v5 := hV.2.2.2.2.2.1
  have hNB := (NB_of hP I (by omega)).1
  have hqs := queS hP I ht.1
  have hqo := queO hP I ht.1
  have hbo : ∀ b, b < (bl β).length → bOK (prm β) M.1 t b := fun b hb => bOK_of hP I ht.1 hb
  have i9 := I.2.2.2.2.2.2.2.2.2.2.2.1
  have hsm : ∀ c, c ∈ sQs (prm β) t M → c < (bl β).length := fun c hc => by
    have h := (hqs.1 c).mp hc
    exact Nat.lt_of_lt_of_le h.1 I.1
  have hom : ∀ c, c ∈ sQo (prm β) t M → c < (bl β).length := fun c hc => by
    have := (hqo.1 c).mp hc
    rcases I.2.2.1 c with z | z
    · exact absurd z this.1
    · exact Nat.lt_of_lt_of_le z.1 I.1
  have hl1 : (sQs (prm β) t M).length ≤ 60 := Nat.le_trans (nodup_le _ (qR_ne hqs.2) hsm) h60
  have hl2 : (sQo (prm β) t M).length ≤ 60 := Nat.le_trans (nodup_le _ (qR_ne hqo.2) hom) h60
  have hpre : ∀ i, i ≤ (bl β).length → (M.2.1 ++ (List.range i).filter (fun b => decide (M.1 0 b ≠ -1) && decide (rE (prm β) M.1 b = t))).length ≤ 60 ∧ (M.2.2.1 ++ (List.range i).filter (fun b => decide (M.1 1 b ≠ -1) && decide (pE (prm β) M.1 b = t))).length ≤ 60 := fun i hi => by
    have hs : (List.range i).Sublist (List.range (bl β).length) := List.range_sublist.mpr hi
    have h1 := (hs.filter (fun b => decide (M.1 0 b ≠ -1) && decide (rE (prm β) M.1 b = t))).length_le
    have h2 := (hs.filter (fun b => decide (M.1 1 b ≠ -1) && decide (pE (prm β) M.1 b = t))).length_le
    have g1 : (sQs (prm β) t M).length = M.2.1.length + ((List.range (bl β).length).filter (fun b => decide (M.1 0 b ≠ -1) && decide (rE (prm β) M.1 b = t))).length := by
      unfold sQs newS; rw [List.length_append]; rfl
    have g2 : (sQo (prm β) t M).length = M.2.2.1.length + ((List.range (bl β).length).filter (fun b => decide (M.1 1 b ≠ -1) && decide (pE (prm β) M.1 b = t))).length := by
      unfold sQo newO; rw [List.length_append]; rfl
    rw [List.length_append, List.length_append]
    omega
  obtain ⟨⟨h19, hRB, hRO, hQ1, hQ2⟩, h34, h35, h36, h37, h38⟩ := hX
  unfold m_X13_endsAll
  refine loop_for (bl β).length (fun i (s : Int × xS) => s.1 = (i : Int) ∧ (∀ b, b < i → RB s.2 β M.1 t b) ∧ (∀ b, i ≤ b → b < (bl β).length → RB s.2 β M.1 (t - 1) b) ∧ RQ s.2 184 27 199 (M.2.1 ++ (List.range i).filter (fun b => decide (M.1 0 b ≠ -1) && decide (rE (prm β) M.1 b = t))) ∧ RQ s.2 184 29 200 (M.2.2.1 ++ (List.range i).filter (fun b => decide (M.1 1 b ≠ -1) && decide (pE (prm β) M.1 b = t))) ∧ (((∃ b, b < i ∧ M.1 2 b ≠ -1 ∧ M.1 2 b + pT (prm β) b 5 = t) ∧ s.2 184 35 = t) ∨ ((∀ b, b < i → ¬ (M.1 2 b ≠ -1 ∧ M.1 2 b + pT (prm β) b 5 = t)) ∧ s.2 184 35 = σ 184 35)) ∧ (∀ a j, (a < 184 ∨ (184 < a ∧ a < 193) ∨ 200 < a ∨ (a = 184 ∧ j ≠ 27 ∧ j ≠ 29 ∧ j ≠ 35)) → s.2 a j = σ a j)) ?_ ?_ (by omega) ⟨rfl, fun b hb => absurd hb (Nat.not_lt_zero _), fun b _ hb => hRB b hb, by simpa using hQ1, by simpa using hQ2, Or.inr ⟨fun b hb => absurd hb (Nat.not_lt_zero _), rfl⟩, fun _ _ _ => rfl⟩
  · rintro i ⟨s1, τ⟩ hi ⟨g1, g2, g3, g4, g5, g6, g7⟩ rec hrec
    dsimp only at g1 g2 g3 g4 g5 g6 g7 ⊢
    subst g1
    have t19 : τ 184 19 = ((bl β).length : Int) := by rw [g7 _ _ (by omega)]; exact h19
    have t34 : τ 184 34 = t := by rw [g7 _ _ (by omega)]; exact h34
    have tk : τ k = β := by rw [← hβ]; funext j; exact g7 k j (by omega)
    have hpi := hpre (i + 1) (by omega)
    rw [filter_succ, filter_succ, ← List.append_assoc, ← List.append_assoc] at hpi
    simp (disch := omega) only [zI_of (n := (i : Int)), zI_of (n := ((bl β).length : Int)), t19, if_neg]
    refine OK_bind (r_goesOn hk tk hV hP hi (g3 i (Nat.le_refl _) hi) (hbo i hi) hNB ht t34 g4 g5 (fun h => ?_) (fun h => ?_)) (fun τ2 h2 => ?_)
    · have e : (decide (M.1 0 i ≠ -1) && decide (rE (prm β) M.1 i = t)) = true := by rw [decide_eq_true h.1, decide_eq_true h.2]; rfl
      have := hpi.1
      rw [if_pos e, List.length_append] at this
      exact Nat.lt_of_succ_le this
    · have e : (decide (M.1 1 i ≠ -1) && decide (pE (prm β) M.1 i = t)) = true := by rw [decide_eq_true h.1, decide_eq_true h.2]; rfl
      have := hpi.2
      rw [if_pos e, List.length_append] at this
      exact Nat.lt_of_succ_le this
    · obtain ⟨w1, w2, w3, w4, w5, w6⟩ := h2
      have ew1 : (if (decide (M.1 0 i ≠ -1) && decide (rE (prm β) M.1 i = t)) = true then [i] else []) = (if M.1 0 i ≠ -1 ∧ rE (prm β) M.1 i = t then [i] else []) := by
        by_cases c : M.1 0 i ≠ -1 ∧ rE (prm β) M.1 i = t
        · rw [if_pos c, decide_eq_true c.1, decide_eq_true c.2]; rfl
        · rw [if_neg c, if_neg (fun z => c (by simpa using z))]
      have ew2 : (if (decide (M.1 1 i ≠ -1) && decide (pE (prm β) M.1 i = t)) = true then [i] else []) = (if M.1 1 i ≠ -1 ∧ pE (prm β) M.1 i = t then [i] else []) := by
        by_cases c : M.1 1 i ≠ -1 ∧ pE (prm β) M.1 i = t
        · rw [if_pos c, decide_eq_true c.1, decide_eq_true c.2]; rfl
        · rw [if_neg c, if_neg (fun z => c (by simpa using z))]
      rw [xlet_eq]
      refine hrec _ ⟨by dsimp only; omega, fun b hb => ?_, fun b h1 h2 => ?_, ?_, ?_, ?_, fun a j haj => ?_⟩
      · by_cases e : b = i
        · rw [e]; exact w1
        · obtain ⟨x1, x2, x3, x4, x5, x6, x7⟩ := w2 b e
          exact RB_of (g2 b (by omega)) (fun _ _ => rfl) x1 x2 x3 x4 x5 x6 x7
      · obtain ⟨x1, x2, x3, x4, x5, x6, x7⟩ := w2 b (by omega)
        exact RB_of (g3 b (by omega) h2) (fun _ _ => rfl) x1 x2 x3 x4 x5 x6 x7
      · rw [filter_succ, ← List.append_assoc, ew1]; exact w3
      · rw [filter_succ, ← List.append_assoc, ew2]; exact w4
      · dsimp only
        rw [w5]
        by_cases c : M.1 2 i ≠ -1 ∧ M.1 2 i + pT (prm β) i 5 = t
        · rw [if_pos c]
          exact Or.inl ⟨⟨i, by omega, c⟩, rfl⟩
        · rw [if_neg c]
          rcases g6 with ⟨⟨b, hb, hc⟩, z⟩ | ⟨hall, z⟩
          · exact Or.inl ⟨⟨b, by omega, hc⟩, z⟩
          · refine Or.inr ⟨fun b hb => ?_, z⟩
            by_cases e : b = i
            · rw [e]; exact c
            · exact hall b (by omega)
      · dsimp only
        rw [w6 a j haj]
        exact g7 a j haj
  · rintro ⟨s1, τ⟩ ⟨g1, g2, g3, g4, g5, g6, g7⟩ rec
    dsimp only at g1 g2 g3 g4 g5 g6 g7 ⊢
    subst g1
    have t19 : τ 184 19 = ((bl β).length : Int) := by rw [g7 _ _ (by omega)]; exact h19
    have t34 : τ 184 34 = t := by rw [g7 _ _ (by omega)]; exact h34
    have tk : τ k = β := by rw [← hβ]; funext j; exact g7 k j (by omega)
    simp (disch := omega) only [zI_of (n := ((bl β).length : Int)), t19, if_pos]
    refine loop_for (β 5).toNat (fun i (s : Int × xS) => s.1 = (i : Int) ∧ (∀ o, o < i → RO s.2 M.1 t o) ∧ (∀ o : Nat, i ≤ o → (o : Int) < β 5 → RO s.2 M.1 (t - 1) o) ∧ (∀ a j, a ≠ 201 → a ≠ 202 → s.2 a j = τ a j)) ?_ ?_ (by omega) ⟨rfl, fun o ho => absurd ho (Nat.not_lt_zero _), fun o _ ho => ?_, fun _ _ _ _ => rfl⟩
    · rintro i ⟨s1', τ2⟩ hi ⟨u1, u2, u3, u4⟩ rec2 hrec2
      dsimp only at u1 u2 u3 u4 ⊢
      subst u1
      have hi5 : (i : Int) < β 5 := by omega
      have hO := u3 i (Nat.le_refl _) hi5
      have h9 := i9 i hi
      have t34' : τ2 184 34 = t := by rw [u4 _ _ (by omega) (by omega)]; exact t34
      have tk' : τ2 k = β := by rw [← tk]; funext j; exact u4 k j (by omega) (by omega)
      obtain ⟨o1, o2, o3⟩ := hO
      simp (disch := omega) only [zI_of (n := (i : Int)), zI_of (n := β 5), tn_lit, tk', xck_of, if_neg, tn_cast, xlet_eq, xj_eq, t34', zI_of (n := t)]
      by_cases c : M.1 6 i ≤ t - 1
      · have hx := o1 c
        rw [hx.1, zI_of (by omega) (by omega), if_pos rfl]
        refine hrec2 _ ⟨by dsimp only; omega, fun o ho => ?_, fun o h1 h2 => u3 o (by omega) h2, u4⟩
        by_cases e : o = i
        · rw [e]; exact ⟨fun _ => hx, fun z => by omega, o3⟩
        · exact u2 o (by omega)
      · have hx := o2 (by omega)
        rw [hx.1, hx.2, zI_of (n := M.1 5 i) (by omega) (by omega), zI_of (n := M.1 6 i) (by omega) (by omega), if_neg (by omega)]
        by_cases c2 : M.1 6 i = t
        · rw [if_pos c2]
          refine hrec2 _ ⟨by dsimp only; omega, fun o ho => ?_, fun o h1 h2 => ?_, fun a j a1 a2 => ?_⟩
          · dsimp only
            by_cases e : o = i
            · subst e
              refine ⟨fun _ => ⟨xput_eq, by rw [xput_ne (by omega), xput_eq]⟩, fun z => by omega, ?_⟩
              rw [xput_ne (by omega), xput_ne (by omega)]
              exact o3
            · obtain ⟨y1, y2, y3⟩ := u2 o (by omega)
              unfold RO
              rw [xput_ne (by omega), xput_ne (by omega), xput_ne (by omega), xput_ne (by omega), xput_ne (by omega), xput_ne (by omega), xput_ne (by omega), xput_ne (by omega)]
              exact ⟨y1, y2, y3⟩
          · obtain ⟨y1, y2, y3⟩ := u3 o (by omega) h2
            dsimp only
            unfold RO
            rw [xput_ne (by omega), xput_ne (by omega), xput_ne (by omega), xput_ne (by omega), xput_ne (by omega), xput_ne (by omega), xput_ne (by omega), xput_ne (by omega)]
            exact ⟨y1, y2, y3⟩
          · dsimp only
            rw [xput_ne (by omega), xput_ne (by omega)]
            exact u4 a j a1 a2
        · rw [if_neg c2]
          refine hrec2 _ ⟨by dsimp only; omega, fun o ho => ?_, fun o h1 h2 => u3 o (by omega) h2, u4⟩
          by_cases e : o = i
          · rw [e]; exact ⟨fun z => by omega, fun _ => hx, o3⟩
          · exact u2 o (by omega)
    · rintro ⟨s1', τ2⟩ ⟨u1, u2, u3, u4⟩ rec2
      dsimp only at u1 u2 u3 u4 ⊢
      subst u1
      have tk' : τ2 k = β := by rw [← tk]; funext j; exact u4 k j (by omega) (by omega)
      rw [show (((β 5).toNat : Nat) : Int) = β 5 by omega]
      simp (disch := omega) only [zI_of (n := β 5), tn_lit, tk', xck_of, if_pos]
      refine OK_some ⟨⟨⟨?_, fun b hb => ?_, fun o ho => u2 o (by omega), ?_, ?_⟩, ?_, ?_, ?_, ?_, ?_⟩, fun a j haj => ?_⟩
      · rw [u4 _ _ (by omega) (by omega)]; exact t19
      · exact RB_of (g2 b hb) (fun _ _ => rfl) (u4 _ _ (by omega) (by omega)) (u4 _ _ (by omega) (by omega)) (u4 _ _ (by omega) (by omega)) (fun _ _ => u4 _ _ (by omega) (by omega)) (u4 _ _ (by omega) (by omega)) (u4 _ _ (by omega) (by omega)) (u4 _ _ (by omega) (by omega))
      · exact RQ_of g4 (u4 _ _ (by omega) (by omega)) (fun _ _ => u4 _ _ (by omega) (by omega))
      · exact RQ_of g5 (u4 _ _ (by omega) (by omega)) (fun _ _ => u4 _ _ (by omega) (by omega))
      · rw [u4 _ _ (by omega) (by omega)]; exact t34
      · rw [u4 _ _ (by omega) (by omega)]
        dsimp only
        have hle : ∀ b, b < (bl β).length → eEn (prm β) M.1 t b ≤ t := fun b hb => by
          obtain ⟨x0, x1, x2, x3, x4⟩ := hbo b hb
          unfold eEn
          split
          · omega
          · split <;> omega
        rcases g6 with ⟨⟨b, hb, hc⟩, z⟩ | ⟨hall, z⟩
        · rw [z]
          have h1 := endE_le (P := prm β) (N := M.1) (u := t) ht.1 (bl β).length hle
          have h2 := endE_ge (P := prm β) (N := M.1) (u := t) (bl β).length b hb
          have e : eEn (prm β) M.1 t b = t := by
            obtain ⟨x0, x1, x2, x3, x4⟩ := hbo b hb
            unfold eEn
            rw [if_neg (by omega), if_pos ⟨hc.1, by omega⟩]
            exact hc.2
          omega
        · rw [z, h35]
          refine (endE_congr _ fun b hb => ?_).symm
          have := hall b hb
          unfold eEn
          by_cases c3 : M.1 3 b = -1
          · rw [if_neg (c := M.1 3 b ≠ -1) (by omega), if_neg (c := M.1 3 b ≠ -1) (by omega)]
            by_cases c2 : M.1 2 b ≠ -1 ∧ M.1 2 b + pT (prm β) b 5 ≤ t
            · rw [if_pos c2, if_pos ⟨c2.1, by omega⟩]
            · rw [if_neg c2, if_neg (fun z => c2 ⟨z.1, by omega⟩)]
          · rw [if_pos c3, if_pos c3]
      · rw [u4 _ _ (by omega) (by omega), g7 _ _ (by omega)]; exact h36
      · rw [u4 _ _ (by omega) (by omega), g7 _ _ (by omega)]; exact h37
      · rw [u4 _ _ (by omega) (by omega), g7 _ _ (by omega)]; exact h38
      · rw [u4 _ _ (by omega) (by omega)]
        exact g7 a j (by omega)
    · have h := hRO o ho
      unfold RO at h ⊢
      dsimp only
      rw [g7 _ _ (by omega), g7 _ _ (by omega), g7 _ _ (by omega), g7 _ _ (by omega)]
      exact h
end RNM
