/-! the class's night: the next minute, the beginning -/
section CX
variable {σ : xS} {q b n : Nat} {β : Nat → Int} {e f t : Int} {N : Nat → Nat → Int} {M : NS}
theorem ifbd {c : Prop} [Decidable c] {x : Int} (h : ¬ c → -1 ≤ x ∧ x ≤ 1000000) : -1 ≤ (if c then -1 else x) ∧ (if c then -1 else x) ≤ 1000000 := by
  by_cases z : c
  · rw [if_pos z]; omega
  · rw [if_neg z]; exact h z
/-- v is the least of S behind m, -1 if there is none -/
def nxt (S : Int → Prop) (m v : Int) : Prop := (v = -1 ∧ ∀ x, S x → x ≤ m) ∨ (m < v ∧ S v ∧ ∀ x, S x → m < x → v ≤ x)
theorem nxt_sooner {S S' : Int → Prop} {m v c : Int} (h : nxt S m v) (hm : 0 ≤ m ∧ m ≤ 1000000) (hv : -1 ≤ v ∧ v ≤ 1000000) (hc : -1 ≤ c ∧ c ≤ 1000000) (hS : ∀ x, S' x ↔ S x ∨ x = c) : nxt S' m (m_X4_sooner v c m) ∧ -1 ≤ m_X4_sooner v c m ∧ m_X4_sooner v c m ≤ 1000000 := by
  unfold m_X4_sooner
  rw [zI_of (by omega) (by omega), zI_of (by omega) (by omega), zI_of (by omega) (by omega)]
  by_cases h1 : c ≤ m
  · rw [if_pos h1]
    refine ⟨?_, hv⟩
    rcases h with h | h
    · refine Or.inl ⟨h.1, fun x hx => ?_⟩
      rcases (hS x).mp hx with y | y
      · exact h.2 x y
      · omega
    · refine Or.inr ⟨h.1, (hS v).mpr (Or.inl h.2.1), fun x hx hl => ?_⟩
      rcases (hS x).mp hx with y | y
      · exact h.2.2 x y hl
      · omega
  · rw [if_neg h1]
    rcases h with h | h
    · rw [if_pos h.1]
      refine ⟨Or.inr ⟨by omega, (hS c).mpr (Or.inr rfl), fun x hx hl => ?_⟩, hc⟩
      rcases (hS x).mp hx with y | y
      · have := h.2 x y; omega
      · omega
    · rw [if_neg (by omega)]
      by_cases h2 : v ≤ c
      · rw [if_pos h2]
        refine ⟨Or.inr ⟨h.1, (hS v).mpr (Or.inl h.2.1), fun x hx hl => ?_⟩, hv⟩
        rcases (hS x).mp hx with y | y
        · exact h.2.2 x y hl
        · omega
      · rw [if_neg h2]
        refine ⟨Or.inr ⟨by omega, (hS c).mpr (Or.inr rfl), fun x hx hl => ?_⟩, hc⟩
        rcases (hS x).mp hx with y | y
        · have := h.2.2 x y hl; omega
        · omega
/-- the minutes at which something ends, as the class has them -/
def e5 (β : Nat → Int) (f : Int) (N : Nat → Nat → Int) (b : Nat) (x : Int) : Prop := x = bgF (prm β) f N 1 b ∨ x = (if N 0 b = -1 then -1 else rE (prm β) N b + f) ∨ x = bgF (prm β) f N 3 b ∨ x = (if N 1 b = -1 then -1 else pE (prm β) N b + f) ∨ x = bgF (prm β) f N 5 b
def EvC (β : Nat → Int) (f : Int) (M : NS) (x : Int) : Prop := (∃ c, c < (bl β).length ∧ e5 β f M.1 c x) ∨ (∃ c, c ∈ M.2.2.1 ∧ x = pE (prm β) M.1 c + f + pT (prm β) c 4 + 1) ∨ (∃ o : Nat, (o : Int) < β 5 ∧ x = shF f (M.1 6 o))
theorem c_next (hB : Bk σ b β e) (hV : V β) (hP : PV (prm β)) (hC : RC σ q β f M) (hN : NB (prm β) M.1) (hn : 4000000 ≤ n) (hf : 0 ≤ f ∧ f ≤ 1439) (ht : 0 ≤ t ∧ t ≤ 150000) (hl : M.2.2.1.length ≤ 60) (hQ : ∀ c, c ∈ M.2.2.1 → c < (bl β).length ∧ M.1 1 c ≠ -1) :
    OK (m_X4_nextMinute n q b (t + f) σ) (fun v => nxt (EvC β f M) (t + f) v ∧ -1 ≤ v ∧ v ≤ 1000000) := by
  have h60 : (bl β).length ≤ 60 := hP.2.2.1
  have v5 := hV.2.2.2.2.2.1
  have b5 := hB.2.2.2.2.2.1
  obtain ⟨hRN, hQs, hQo, hm⟩ := hC
  have r2 := hRN.2.1
  have hRN' := hRN
  obtain ⟨r0, -, rd, rb, rc, ro⟩ := hRN'
  unfold m_X4_nextMinute
  rw [xlet_eq]
  refine loop_for (bl β).length (fun i (s : Int × Int) => s.2 = (i : Int) ∧ nxt (fun x => ∃ c, c < i ∧ e5 β f M.1 c x) (t + f) s.1 ∧ -1 ≤ s.1 ∧ s.1 ≤ 1000000) ?_ ?_ (by omega) ⟨rfl, Or.inl ⟨rfl, fun x hx => by obtain ⟨c, hc, -⟩ := hx; omega⟩, by decide, by decide⟩
  · rintro i ⟨s1, s2⟩ hi ⟨g1, g2, g3, g4⟩ rec hrec
    dsimp only at g1 g2 g3 g4 ⊢
    subst g1
    have hT := hP.1 i hi
    have hb0 := hN.1 i hi 0 (by omega)
    have hb1 := hN.1 i hi 1 (by omega)
    have hb2 := hN.1 i hi 2 (by omega)
    have c1 := rb i hi 1 (by omega)
    have c3 := rb i hi 3 (by omega)
    have c5 := rb i hi 5 (by omega)
    obtain ⟨-, cr, cp, -⟩ := rc i hi
    have eR : rE (prm β) M.1 i = M.1 0 i + pT (prm β) i 0 + pT (prm β) i 1 := rfl
    have eP : pE (prm β) M.1 i = M.1 1 i + pT (prm β) i 2 + pT (prm β) i 3 := rfl
    have k1 : -1 ≤ bgF (prm β) f M.1 1 i ∧ bgF (prm β) f M.1 1 i ≤ 1000000 := ifbd (c := M.1 0 i = -1) (x := M.1 0 i + pT (prm β) i 0 + f) (fun _ => by omega)
    have k2 : -1 ≤ (if M.1 0 i = -1 then -1 else rE (prm β) M.1 i + f) ∧ (if M.1 0 i = -1 then -1 else rE (prm β) M.1 i + f) ≤ 1000000 := by split <;> omega
    have k3 : -1 ≤ bgF (prm β) f M.1 3 i ∧ bgF (prm β) f M.1 3 i ≤ 1000000 := ifbd (c := M.1 1 i = -1) (x := M.1 1 i + pT (prm β) i 2 + f) (fun _ => by omega)
    have k4 : -1 ≤ (if M.1 1 i = -1 then -1 else pE (prm β) M.1 i + f) ∧ (if M.1 1 i = -1 then -1 else pE (prm β) M.1 i + f) ≤ 1000000 := by split <;> omega
    have k5 : -1 ≤ bgF (prm β) f M.1 5 i ∧ bgF (prm β) f M.1 5 i ≤ 1000000 := ifbd (c := M.1 2 i = -1) (x := M.1 2 i + pT (prm β) i 5 + f) (fun _ => by omega)
    simp (disch := omega) only [zI_of (n := (i : Int)), zI_of (n := ((bl β).length : Int)), r2, if_neg, xck_of, tn_cast, tn_lit, xlet_eq, c1, c3, c5, cr, cp]
    have n1 := nxt_sooner (S' := fun x => (∃ c, c < i ∧ e5 β f M.1 c x) ∨ x = bgF (prm β) f M.1 1 i) g2 (by omega) ⟨g3, g4⟩ k1 (fun x => Iff.rfl)
    have n2 := nxt_sooner (S' := fun x => ((∃ c, c < i ∧ e5 β f M.1 c x) ∨ x = bgF (prm β) f M.1 1 i) ∨ x = (if M.1 0 i = -1 then -1 else rE (prm β) M.1 i + f)) n1.1 (by omega) n1.2 k2 (fun x => Iff.rfl)
    have n3 := nxt_sooner (S' := fun x => (((∃ c, c < i ∧ e5 β f M.1 c x) ∨ x = bgF (prm β) f M.1 1 i) ∨ x = (if M.1 0 i = -1 then -1 else rE (prm β) M.1 i + f)) ∨ x = bgF (prm β) f M.1 3 i) n2.1 (by omega) n2.2 k3 (fun x => Iff.rfl)
    have n4 := nxt_sooner (S' := fun x => ((((∃ c, c < i ∧ e5 β f M.1 c x) ∨ x = bgF (prm β) f M.1 1 i) ∨ x = (if M.1 0 i = -1 then -1 else rE (prm β) M.1 i + f)) ∨ x = bgF (prm β) f M.1 3 i) ∨ x = (if M.1 1 i = -1 then -1 else pE (prm β) M.1 i + f)) n3.1 (by omega) n3.2 k4 (fun x => Iff.rfl)
    have n5 := nxt_sooner (S' := fun x => ∃ c, c < i + 1 ∧ e5 β f M.1 c x) n4.1 (by omega) n4.2 k5 (fun x => by
      constructor
      · rintro ⟨c, hc, h⟩
        by_cases ec : c = i
        · subst ec
          rcases h with h | h | h | h | h
          · exact Or.inl (Or.inl (Or.inl (Or.inl (Or.inr h))))
          · exact Or.inl (Or.inl (Or.inl (Or.inr h)))
          · exact Or.inl (Or.inl (Or.inr h))
          · exact Or.inl (Or.inr h)
          · exact Or.inr h
        · exact Or.inl (Or.inl (Or.inl (Or.inl (Or.inl ⟨c, by omega, h⟩))))
      · rintro (((((⟨c, hc, h⟩ | h) | h) | h) | h) | h)
        · exact ⟨c, by omega, h⟩
        · exact ⟨i, by omega, Or.inl h⟩
        · exact ⟨i, by omega, Or.inr (Or.inl h)⟩
        · exact ⟨i, by omega, Or.inr (Or.inr (Or.inl h))⟩
        · exact ⟨i, by omega, Or.inr (Or.inr (Or.inr (Or.inl h)))⟩
        · exact ⟨i, by omega, Or.inr (Or.inr (Or.inr (Or.inr h)))⟩)
    exact hrec _ ⟨by dsimp only; omega, n5⟩
  · rintro ⟨s1, s2⟩ ⟨g1, g2, g3, g4⟩ rec
    dsimp only at g1 g2 g3 g4 ⊢
    subst g1
    simp (disch := omega) only [zI_of (n := ((bl β).length : Int)), r2, if_pos]
    refine loop_for M.2.2.1.length (fun i (s : Int × Int) => s.2 = (i : Int) ∧ nxt (fun x => (∃ c, c < (bl β).length ∧ e5 β f M.1 c x) ∨ (∃ j, j < i ∧ x = pE (prm β) M.1 (M.2.2.1.getD j 0) + f + pT (prm β) (M.2.2.1.getD j 0) 4 + 1)) (t + f) s.1 ∧ -1 ≤ s.1 ∧ s.1 ≤ 1000000) ?_ ?_ (by omega) ⟨rfl, ?_, g3, g4⟩
    · rintro i ⟨s1', s2'⟩ hi ⟨u1, u2, u3, u4⟩ rec2 hrec2
      dsimp only at u1 u2 u3 u4 ⊢
      subst u1
      have hcm := getD_mem hi
      have hx : σ (q + 14) i = (((M.2.2.1.getD i 0 : Nat)) : Int) := hQo.2 i hi
      obtain ⟨hcn, hc1⟩ := hQ _ hcm
      obtain ⟨hd1, hd2, hd3⟩ := c_dough hB hV hRN hcn
      have hd34 := hd3 4 (by omega)
      have hT := hP.1 _ hcn
      have hb1 := hN.1 _ hcn 1 (by omega)
      have hlim : dF β ((bl β).getD (M.2.2.1.getD i 0) 0) 4 = pT (prm β) (M.2.2.1.getD i 0) 4 := rfl
      have hpe : σ (q + 11) (M.2.2.1.getD i 0) = pE (prm β) M.1 (M.2.2.1.getD i 0) + f := by
        rw [(rc _ hcn).2.2.1, if_neg hc1]
      have eP : pE (prm β) M.1 (M.2.2.1.getD i 0) = M.1 1 (M.2.2.1.getD i 0) + pT (prm β) (M.2.2.1.getD i 0) 2 + pT (prm β) (M.2.2.1.getD i 0) 3 := rfl
      have q13 := hQo.1
      have n1 := nxt_sooner (c := pE (prm β) M.1 (M.2.2.1.getD i 0) + f + pT (prm β) (M.2.2.1.getD i 0) 4 + 1) (S' := fun x => (∃ c, c < (bl β).length ∧ e5 β f M.1 c x) ∨ (∃ j, j < i + 1 ∧ x = pE (prm β) M.1 (M.2.2.1.getD j 0) + f + pT (prm β) (M.2.2.1.getD j 0) 4 + 1)) u2 (by omega) ⟨u3, u4⟩ (by omega) (fun x => by
        constructor
        · rintro (h | ⟨j, hj, h⟩)
          · exact Or.inl (Or.inl h)
          · by_cases ej : j = i
            · subst ej; exact Or.inr h
            · exact Or.inl (Or.inr ⟨j, by omega, h⟩)
        · rintro ((h | ⟨j, hj, h⟩) | h)
          · exact Or.inl h
          · exact Or.inr ⟨j, by omega, h⟩
          · exact Or.inr ⟨i, by omega, h⟩)
      generalize M.2.2.1.getD i 0 = c at *
      simp (disch := omega) only [zI_of (n := (i : Int)), zI_of (n := (M.2.2.1.length : Int)), zI_of (n := (c : Int)), zI_of (n := (((bl β).getD c 0 : Nat) : Int)), q13, if_neg, xck_of, tn_cast, xlet_eq, hx, hd1, hd34, hpe, hlim]
      exact hrec2 _ ⟨by dsimp only; omega, n1⟩
    · rintro ⟨s1', s2'⟩ ⟨u1, u2, u3, u4⟩ rec2
      dsimp only at u1 u2 u3 u4 ⊢
      subst u1
      have q13 := hQo.1
      simp (disch := omega) only [zI_of (n := (M.2.2.1.length : Int)), q13, if_pos]
      refine loop_for (β 5).toNat (fun i (s : Int × Int) => s.2 = (i : Int) ∧ nxt (fun x => ((∃ c, c < (bl β).length ∧ e5 β f M.1 c x) ∨ (∃ c, c ∈ M.2.2.1 ∧ x = pE (prm β) M.1 c + f + pT (prm β) c 4 + 1)) ∨ (∃ o : Nat, o < i ∧ x = shF f (M.1 6 o))) (t + f) s.1 ∧ -1 ≤ s.1 ∧ s.1 ≤ 1000000) ?_ ?_ (by omega) ⟨rfl, ?_, u3, u4⟩
      · rintro i ⟨s1'', s2''⟩ hi ⟨w1, w2, w3, w4⟩ rec3 hrec3
        dsimp only at w1 w2 w3 w4 ⊢
        subst w1
        have hr := ro i (by omega)
        have hNo := hN.2.2 i (by show i < (β 5).toNat; omega)
        have hsh := shF_bd hNo.2.1 hf
        simp (disch := omega) only [zI_of (n := (i : Int)), zI_of (n := β 5), b5, if_neg, xck_of, tn_cast, xlet_eq, hr.2.1]
        refine hrec3 _ ⟨by dsimp only; omega, nxt_sooner w2 (by omega) ⟨w3, w4⟩ (by omega) (fun x => ?_)⟩
        constructor
        · rintro (h | ⟨j, hj, h⟩)
          · exact Or.inl (Or.inl h)
          · by_cases ej : j = i
            · subst ej; exact Or.inr h
            · exact Or.inl (Or.inr ⟨j, by omega, h⟩)
        · rintro ((h | ⟨j, hj, h⟩) | h)
          · exact Or.inl h
          · exact Or.inr ⟨j, by omega, h⟩
          · exact Or.inr ⟨i, by omega, h⟩
      · rintro ⟨s1'', s2''⟩ ⟨w1, w2, w3, w4⟩ rec3
        dsimp only at w1 w2 w3 w4 ⊢
        subst w1
        rw [show (((β 5).toNat : Nat) : Int) = β 5 by omega]
        simp (disch := omega) only [zI_of (n := β 5), b5, if_pos]
        refine OK_some ⟨?_, w3, w4⟩
        have hS : (fun x => ((∃ c, c < (bl β).length ∧ e5 β f M.1 c x) ∨ (∃ c, c ∈ M.2.2.1 ∧ x = pE (prm β) M.1 c + f + pT (prm β) c 4 + 1)) ∨ (∃ o : Nat, o < (β 5).toNat ∧ x = shF f (M.1 6 o))) = EvC β f M := by
          funext x
          refine propext ⟨?_, ?_⟩
          · rintro ((h | h) | ⟨o, ho, h⟩)
            · exact Or.inl h
            · exact Or.inr (Or.inl h)
            · exact Or.inr (Or.inr ⟨o, by omega, h⟩)
          · rintro (h | h | ⟨o, ho, h⟩)
            · exact Or.inl (Or.inl h)
            · exact Or.inl (Or.inr h)
            · exact Or.inr ⟨o, by omega, h⟩
        rw [← hS]
        exact w2
      · have hS : (fun x => ((∃ c, c < (bl β).length ∧ e5 β f M.1 c x) ∨ (∃ c, c ∈ M.2.2.1 ∧ x = pE (prm β) M.1 c + f + pT (prm β) c 4 + 1)) ∨ (∃ o : Nat, o < 0 ∧ x = shF f (M.1 6 o))) = (fun x => (∃ c, c < (bl β).length ∧ e5 β f M.1 c x) ∨ (∃ j, j < M.2.2.1.length ∧ x = pE (prm β) M.1 (M.2.2.1.getD j 0) + f + pT (prm β) (M.2.2.1.getD j 0) 4 + 1)) := by
          funext x
          refine propext ⟨?_, ?_⟩
          · rintro ((h | ⟨c, hc, h⟩) | ⟨o, ho, h⟩)
            · exact Or.inl h
            · obtain ⟨j, hj, rfl⟩ := List.mem_iff_getElem.mp hc
              refine Or.inr ⟨j, hj, ?_⟩
              rw [List.getD_eq_getElem?_getD, List.getElem?_eq_getElem hj]
              exact h
            · omega
          · rintro (h | ⟨j, hj, h⟩)
            · exact Or.inl (Or.inl h)
            · exact Or.inl (Or.inr ⟨_, getD_mem hj, h⟩)
        rw [hS]
        exact u2
    · have hS : (fun x => (∃ c, c < (bl β).length ∧ e5 β f M.1 c x) ∨ (∃ j, j < 0 ∧ x = pE (prm β) M.1 (M.2.2.1.getD j 0) + f + pT (prm β) (M.2.2.1.getD j 0) 4 + 1)) = (fun x => ∃ c, c < (bl β).length ∧ e5 β f M.1 c x) := by
        funext x
        refine propext ⟨?_, fun h => Or.inl h⟩
        rintro (h | ⟨j, hj, h⟩)
        · exact h
        · omega
      rw [hS]
      exact g2
theorem c_fill {k z : Nat} {v : Int} (hn : 4000000 ≤ n) (hz : z ≤ 2000) : m_J7_fill_53178 n k z v σ = some (fun a j => if a = k ∧ j < z then v else σ a j) := by
  unfold m_J7_fill_53178
  rw [xlet_eq]
  refine loop_eq z (fun i => ((i : Int), (fun a j => if a = k ∧ j < i then v else σ a j : xS))) ?_ ?_ ?_ (by omega)
  · refine Prod.ext rfl ?_
    funext a j
    dsimp only
    rw [if_neg (by omega)]
  · intro i hi rec
    dsimp only
    simp (disch := omega) only [zI_of, if_neg, xck_of, tn_cast, xlet_eq]
    congr 1
    refine Prod.ext (by dsimp only; omega) ?_
    funext a j
    dsimp only
    rw [xput_at']
    by_cases h : a = k ∧ j = i
    · rw [if_pos h, if_pos (by omega)]
    · rw [if_neg h]
      by_cases h2 : a = k ∧ j < i
      · rw [if_pos h2, if_pos (by omega)]
      · rw [if_neg h2, if_neg (by omega)]
  · intro rec
    dsimp only
    simp (disch := omega) only [zI_of, if_pos]
theorem c_begin (hB : Bk σ b β e) (hV : V β) (hn : 4000000 ≤ n) (hq : b + 54 ≤ q) (h60 : allF β ≤ 60) :
    OK (m_X4_begin n q b f σ) (fun σ' => RC σ' q β f (M0 (prm β)) ∧ σ' q 1 = f ∧ nfb q σ σ') := by
  have v5 := hV.2.2.2.2.2.1
  unfold m_X4_begin
  simp only [xlet_eq]
  refine loop_for 6 (fun i (s : Int × xS) => s.1 = (i : Int) ∧ s.2 q 0 = f ∧ s.2 q 1 = f ∧ s.2 q 9 = 0 ∧ s.2 q 11 = 0 ∧ s.2 q 13 = 0 ∧ (∀ r, r < i → ∀ j, j < 60 → s.2 (q + 4 + r) j = -1) ∧ nfb q σ s.2) ?_ ?_ (by omega) ⟨rfl, ?_, ?_, ?_, ?_, ?_, fun r hr => absurd hr (Nat.not_lt_zero _), ?_⟩
  · rintro i ⟨s1, τ⟩ hi ⟨g1, g2, g3, g4, g5, g6, g7, g8⟩ rec hrec
    dsimp only at g1 g2 g3 g4 g5 g6 g7 g8 ⊢
    subst g1
    simp (disch := omega) only [zI_of, if_neg, xck_of, tn_cast, c_fill hn (show 60 ≤ 2000 by decide), bind_some']
    refine hrec _ ⟨by dsimp only; omega, ?_, ?_, ?_, ?_, ?_, fun r hr j hj => ?_, fun k j hk => ?_⟩
    · dsimp only; rw [if_neg (by omega)]; exact g2
    · dsimp only; rw [if_neg (by omega)]; exact g3
    · dsimp only; rw [if_neg (by omega)]; exact g4
    · dsimp only; rw [if_neg (by omega)]; exact g5
    · dsimp only; rw [if_neg (by omega)]; exact g6
    · dsimp only
      by_cases h : r = i
      · rw [h, if_pos ⟨rfl, hj⟩]
      · rw [if_neg (by omega)]
        exact g7 r (by omega) j hj
    · dsimp only; rw [if_neg (by omega)]; exact g8 k j hk
  · rintro ⟨s1, τ⟩ ⟨g1, g2, g3, g4, g5, g6, g7, g8⟩ rec
    dsimp only at g1 g2 g3 g4 g5 g6 g7 g8 ⊢
    subst g1
    simp (disch := omega) only [zI_of, if_pos, c_fill hn (show 60 ≤ 2000 by decide), c_fill hn (show 4 ≤ 2000 by decide), bind_some']
    generalize hτ2 : (fun a j => if a = q + 17 ∧ j < 4 then (0 : Int) else if a = q + 16 ∧ j < 4 then -1 else if a = q + 12 ∧ j < 60 then -1 else if a = q + 11 ∧ j < 60 then -1 else if a = q + 10 ∧ j < 60 then -1 else if a = q + 2 ∧ j < 60 then -1 else τ a j) = τ2
    have k1 : ∀ j, τ2 q j = τ q j := fun j => by rw [← hτ2]; dsimp only; rw [if_neg (by omega), if_neg (by omega), if_neg (by omega), if_neg (by omega), if_neg (by omega), if_neg (by omega)]
    have k2 : ∀ j, j < 60 → τ2 (q + 2) j = -1 ∧ τ2 (q + 10) j = -1 ∧ τ2 (q + 11) j = -1 ∧ τ2 (q + 12) j = -1 := fun j hj => by
      rw [← hτ2]
      refine ⟨?_, ?_, ?_, ?_⟩
      · dsimp only; rw [if_neg (by omega), if_neg (by omega), if_neg (by omega), if_neg (by omega), if_neg (by omega), if_pos (by omega)]
      · dsimp only; rw [if_neg (by omega), if_neg (by omega), if_neg (by omega), if_neg (by omega), if_pos (by omega)]
      · dsimp only; rw [if_neg (by omega), if_neg (by omega), if_neg (by omega), if_pos (by omega)]
      · dsimp only; rw [if_neg (by omega), if_neg (by omega), if_pos (by omega)]
    have k3 : ∀ j, j < 4 → τ2 (q + 16) j = -1 ∧ τ2 (q + 17) j = 0 := fun j hj => by
      rw [← hτ2]
      refine ⟨?_, ?_⟩
      · dsimp only; rw [if_neg (by omega), if_pos (by omega)]
      · dsimp only; rw [if_pos (by omega)]
    have k4 : ∀ r, r < 6 → ∀ j, j < 60 → τ2 (q + 4 + r) j = -1 := fun r hr j hj => by
      rw [← hτ2]; dsimp only; rw [if_neg (by omega), if_neg (by omega), if_neg (by omega), if_neg (by omega), if_neg (by omega), if_neg (by omega)]
      exact g7 r hr j hj
    have k5 : nfb q σ τ2 := fun k j hk => by
      rw [← hτ2]; dsimp only; rw [if_neg (by omega), if_neg (by omega), if_neg (by omega), if_neg (by omega), if_neg (by omega), if_neg (by omega)]
      exact g8 k j hk
    clear hτ2
    refine loop_for (β 5).toNat (fun i (s : Int × xS) => s.1 = (i : Int) ∧ (∀ o, o < i → s.2 (q + 15) o = ovF β o 1) ∧ (∀ k j, k ≠ q + 15 → s.2 k j = τ2 k j)) ?_ ?_ (by omega) ⟨rfl, fun o ho => absurd ho (Nat.not_lt_zero _), fun _ _ _ => rfl⟩
    · rintro i ⟨s1', τ3⟩ hi ⟨u1, u2, u3⟩ rec2 hrec2
      dsimp only at u1 u2 u3 ⊢
      subst u1
      have hBt : Bk τ3 b β e := Bk_same hB hV (fun k j a d => by rw [u3 k j (by omega)]; exact k5 k j (by omega))
      have b5 := hBt.2.2.2.2.2.1
      have ho := hBt.2.2.2.2.2.2.2.2.2.2.2.1 i (by omega) 1 (by omega)
      simp (disch := omega) only [zI_of, b5, if_neg, xck_of, tn_cast, xlet_eq, ho]
      refine hrec2 _ ⟨by dsimp only; omega, fun o ho => ?_, fun k j hk => ?_⟩
      · dsimp only
        by_cases h : o = i
        · rw [h, xput_eq]
        · rw [xput_ne (by omega)]
          exact u2 o (by omega)
      · dsimp only; rw [xput_ne (by omega)]; exact u3 k j hk
    · rintro ⟨s1', τ3⟩ ⟨u1, u2, u3⟩ rec2
      dsimp only at u1 u2 u3 ⊢
      subst u1
      have hBt : Bk τ3 b β e := Bk_same hB hV (fun k j a d => by rw [u3 k j (by omega)]; exact k5 k j (by omega))
      have b5 := hBt.2.2.2.2.2.1
      rw [show (((β 5).toNat : Nat) : Int) = β 5 by omega]
      simp (disch := omega) only [zI_of, b5, if_pos]
      refine OK_bind (c_numberBatches hBt hV hn hq h60) (fun τ4 hτ4 => ?_)
      obtain ⟨w1, w2, w3⟩ := hτ4
      have hbl := (bl_len hV).1
      refine OK_some ⟨⟨⟨?_, w1, w2, fun x hx r hr => ?_, fun x hx => ?_, fun o ho => ?_⟩, ⟨?_, fun i hi => absurd hi (Nat.not_lt_zero _)⟩, ⟨?_, fun i hi => absurd hi (Nat.not_lt_zero _)⟩, ?_⟩, ?_, fun k j hk => ?_⟩
      · rw [w3 _ _ (by omega) (by omega), u3 _ _ (by omega), k1]; exact g2
      · rw [w3 _ _ (by omega) (by omega), u3 _ _ (by omega), k4 r hr x (by omega)]
        have r6 : r = 0 ∨ r = 1 ∨ r = 2 ∨ r = 3 ∨ r = 4 ∨ r = 5 := by omega
        rcases r6 with rfl | rfl | rfl | rfl | rfl | rfl <;> rfl
      · have h := k2 x (by omega)
        rw [w3 _ _ (by omega) (by omega), w3 _ _ (by omega) (by omega), w3 _ _ (by omega) (by omega), w3 _ _ (by omega) (by omega), u3 _ _ (by omega), u3 _ _ (by omega), u3 _ _ (by omega), u3 _ _ (by omega), h.1, h.2.1, h.2.2.1, h.2.2.2]
        exact ⟨rfl, rfl, rfl, rfl⟩
      · have h := k3 o (by omega)
        rw [w3 _ _ (by omega) (by omega), w3 _ _ (by omega) (by omega), w3 _ _ (by omega) (by omega), u2 o (by omega), u3 _ _ (by omega), u3 _ _ (by omega), h.1, h.2]
        exact ⟨rfl, rfl, rfl⟩
      · rw [w3 _ _ (by omega) (by omega), u3 _ _ (by omega), k1]; exact g5
      · rw [w3 _ _ (by omega) (by omega), u3 _ _ (by omega), k1]; exact g6
      · rw [w3 _ _ (by omega) (by omega), u3 _ _ (by omega), k1]; exact g4
      · rw [w3 _ _ (by omega) (by omega), u3 _ _ (by omega), k1]; exact g3
      · rw [w3 _ _ (by omega) (by omega), u3 _ _ (by omega)]; exact k5 k j hk
  · dsimp only; rw [xput_ne (by omega), xput_ne (by omega), xput_ne (by omega), xput_ne (by omega), xput_eq]
  · dsimp only; rw [xput_ne (by omega), xput_ne (by omega), xput_ne (by omega), xput_eq]
  · dsimp only; rw [xput_ne (by omega), xput_ne (by omega), xput_eq]
  · dsimp only; rw [xput_ne (by omega), xput_eq]
  · dsimp only; rw [xput_eq]
  · intro k j hk
    dsimp only
    rw [xput_ne (by omega), xput_ne (by omega), xput_ne (by omega), xput_ne (by omega), xput_ne (by omega)]
end CX
