/-! WORLDS THAT GROW: rows of rows; words for arrays -/
def hM (h : Nat → Nat → Bool) (k0 n : Nat) : Nat → Nat → Bool := fun a i => (decide (a = k0) && decide (i < n)) || h a i
theorem hM_ne {h : Nat → Nat → Bool} {k0 n a i : Nat} (e : ¬ (a = k0 ∧ i < n)) : hM h k0 n a i = h a i := by
  unfold hM
  by_cases c : a = k0
  · by_cases d : i < n
    · exact absurd ⟨c, d⟩ e
    · simp [d]
  · simp [c]
theorem hM_eq {h : Nat → Nat → Bool} {k0 n i : Nat} (e : i < n) : hM h k0 n k0 i = true := by simp [hM, e]
theorem hM_0 {h : Nat → Nat → Bool} {k0 : Nat} : hM h k0 0 = h := by
  funext a i
  exact hM_ne (fun q => Nat.not_lt_zero _ q.2)
theorem hM_S {h : Nat → Nat → Bool} {k0 n : Nat} : hS (hM h k0 n) k0 n = hM h k0 (n + 1) := by
  funext a i
  by_cases c : a = k0
  · subst c
    by_cases d : i = n
    · subst d
      rw [hS_eq, hM_eq (Nat.lt_succ_self _)]
    · rw [hS_ne (fun q => d q.2)]
      by_cases f : i < n
      · rw [hM_eq f, hM_eq (by omega)]
      · rw [hM_ne (fun q => f q.2), hM_ne (fun q => by omega)]
  · rw [hS_ne (fun q => c q.1), hM_ne (fun q => c q.1), hM_ne (fun q => c q.1)]
theorem hR_ne {lo hi k j : Nat} {h : Nat → Nat → Bool} (e : ¬ (lo ≤ k ∧ k < hi)) : hR lo hi h k j = h k j := if_neg e
theorem hR_eq {lo hi k j : Nat} {h : Nat → Nat → Bool} (e : lo ≤ k ∧ k < hi) : hR lo hi h k j = true := if_pos e
theorem hlow_M {c k0 n : Nat} {h : Nat → Nat → Bool} (hh : hlow c h) (hk : k0 < c) : hlow c (hM h k0 n) := fun k i hk' => by
  rw [hM_ne (fun q => by omega)]
  exact hh k i hk'
theorem wP_ref {c k j a : Nat} {h : Nat → Nat → Bool} {v : Int} (hh : h k j = true) (hr : WW.2.2 k j v = some a) : (wP c h).2.2 k j v = some a := by
  show (if h k j = true then _ else _) = _
  rw [hh]
  exact hr
theorem rtL_len : ∀ k, k < 216 → (rtL.getD k []).length ≤ 60 := by decide +kernel
theorem rfs_lt {k j : Nat} (h : rfs k j = true) : j < 60 := by
  unfold rfs at h
  rw [decide_eq_true_eq] at h
  refine Nat.not_le.mp fun q => h ?_
  by_cases c : k < 216
  · have := rtL_len k c
    exact List.getD_eq_default _ _ (by omega)
  · have e : rtL.length = 216 := by decide +kernel
    rw [List.getD_eq_default rtL [] (by omega)]
    rfl
section GROW4
variable {ρ : Type} {X : xX} {Qf : ρ → State → Prop} {cc : ByteArray} {own : String} {ret : Option FieldType} {rm : Room} {nL : Nat} {σ : xS} {pc k z c : Nat} {h : Nat → Nat → Bool} {L : List (Nat × Value)} {st : List Value} {o : Option ρ}
/-- a row of rows of ints more -/
theorem x_multi (Cg : xCg X cc own ret rm nL) {n m index : Nat} {v u : Int} (hsh : WW.2.1 c = (4, n)) (hel : ∀ j, j < n → WW.2.1 (c + 1 + j) = (0, m)) (hrf : ∀ j, j < n → ∀ v, WW.2.2 c j v = some (c + 1 + j)) (hσ : ∀ k j, c < k → σ k j = 0) (h0 : hlow c h) (hfl : (xXE X).2.1.2.2 9 0 = 0) (hcl : Cond.classLink own index "[[I" ∈ GW) (hov : Cond.arrayOver (.array .int) ∈ GW) (har : Cond.arrayClass .int ∈ GW) (hv : Int32.ofInt v = Int32.ofNat n) (hu : Int32.ofInt u = Int32.ofNat m) (hnm : n ≤ 100000 ∧ m ≤ 100000) (d : decode cc pc = .ok (.multianewarray index 2, 4)) (h1 : k + (1 + n) ≤ rm.cells) (h2 : z + (n + n * m) ≤ rm.slots)
    (kk : WO (xat X (k + (1 + n)) (z + (n + n * m))) Qf (wP (c + 1 + n) (hM h c n)) σ (pc + 4) L (.ref ((xXE X).2.2 + c) :: st) o) : WO (xat X k z) Qf (wP c h) σ pc L (iV u :: iV v :: st) o := by
  intro r hr H locs hR ls hl
  have C := Cg k z (by omega) (by omega)
  have hsz : H.size = (xXE X).2.2 + c := hR.2.1.2 hfl
  have hRm : xXR X = rm := C.2.2.2.2.2.2.2.2.2.1
  have hnn : (Int32.ofInt v).toNatClampNeg = n := by rw [hv]; exact nI_clamp (by omega)
  have hmm : (Int32.ofInt u).toNatClampNeg = m := by rw [hu]; exact nI_clamp (by omega)
  refine xW_multi (N := n) (M := m) C.1 C.2.1 C.2.2.2.1 (C.2.2.2.2.1 _ hcl) (C.2.2.2.2.1 _ hov) (C.2.2.2.2.1 _ har) rfl d rfl (by rw [hv]; exact Int32.not_lt.mpr (nI_pos' (by omega))) (by rw [hu]; exact Int32.not_lt.mpr (nI_pos' (by omega))) hnn hmm hnm.1 hnm.2 (by show k + _ ≤ (xXR X).cells; rw [hRm]; exact h1) (by show z + _ ≤ (xXR X).slots; rw [hRm]; exact h2) fun cA cI H1 locs1 g1 g2 z1 e1 e2 o1 hlo => ?_
  have hcA : cA = (xXE X).2.1.1 4 := Option.some.inj (g1.symm.trans (C.2.2.2.2.2.1.2 4 _ rfl).2)
  have hcI : cI = (xXE X).2.1.1 0 := Option.some.inj (g2.symm.trans (C.2.2.2.2.2.1.2 0 _ rfl).2)
  subst hcA
  subst hcI
  obtain ⟨hP, hz, hS⟩ := hR
  have hR1 : xRel (xXE X) (wP (c + 1 + n) (hM h c n)) σ (xXs X).heap H1 locs1 := by
    refine ⟨fun i q hq => ?_, ⟨by rw [z1, hsz]; show _ + (c + 1 + n) ≤ _; omega, fun _ => by rw [z1, hsz]; show _ = _ + (c + 1 + n); omega⟩, ⟨Nat.le_trans hS.1 (by omega), fun x a1 a2 => (o1 x (Nat.lt_of_lt_of_le a1 hS.1)).trans (hS.2.1 x a1 a2), fun x hx => ?_⟩⟩
    · by_cases hi : i < c
      · have e0 : xC (xXE X) (wP (c + 1 + n) (hM h c n)) σ i = xC (xXE X) (wP c h) σ i := (xC_ext (w := wP c h) (σ := σ) rfl (fun j v => by show (if hM h c n i j = true then _ else _) = _; rw [hM_ne (fun q => by omega)]; rfl) (fun _ => rfl)).symm
        rw [xws_get (w := wP (c + 1 + n) (hM h c n)) (by show i < c + 1 + n; omega), e0] at hq
        have h3 := hP i q (by rw [xws_get (w := wP c h) hi]; exact hq)
        have hlt : q.1 < H.size := va_at.lt h3
        cases hq
        have := hP.kept (H1 := H1) (fun k x hx => o1 x.1 ((hP k x hx).lt))
        exact this i _ (xws_get (w := wP c h) hi)
      · have hic : i < c + 1 + n := by
          have := (List.getElem?_eq_some_iff.mp hq).1
          simpa [xws, wP] using this
        rw [xws_get (w := wP (c + 1 + n) (hM h c n)) hic] at hq
        cases hq
        by_cases hi2 : i = c
        · subst hi2
          rw [xC_r (w := wP (i + 1 + n) (hM h i n)) (by omega) hsh]
          show H1[_]? = some (vp_cell _ _)
          rw [← hsz, e1, vp_cell_q]
          refine congrArg some (arrV_ext fun j hj => ?_)
          rw [wP_ref (hM_eq hj) (hrf j hj _), hsz]
          show Value.ref _ = Value.ref _
          congr 1
          omega
        · obtain ⟨j, hj⟩ : ∃ j, i = c + 1 + j := ⟨i - (c + 1), by omega⟩
          subst hj
          rw [xC_0 (w := wP (c + 1 + n) (hM h c n)) (hel j (by omega))]
          show H1[_]? = some (vp_cell _ _)
          rw [show (xXE X).2.2 + (c + 1 + j) = H.size + 1 + j by omega, e2 j (by omega), vp_cell_i]
          exact congrArg some (arrV_ext fun q _ => by rw [hσ _ _ (by omega)]; rfl)
    · rcases hlo x hx with q | q
      · exact hS.2.2 x q
      · show _ ≤ x.base
        rw [q, hsz]
        omega
  have := kk r hr H1 locs1 hR1 ls hl
  rw [hsz]
  exact this
end GROW4
theorem wdA0 : Cond.arrayClass .int ∈ GW := gwt1 20 (by decide +kernel) rfl
theorem wdA1 : Cond.arrayClass .long ∈ GW := gwt0 98 (by decide +kernel) rfl
theorem wdA2 : Cond.arrayClass .byte ∈ GW := gwt0 67 (by decide +kernel) rfl
theorem wdA3 : Cond.arrayClass .boolean ∈ GW := gwt1 21 (by decide +kernel) rfl
theorem wdO4 : Cond.arrayOver (.array .int) ∈ GW := gwt0 228 (by decide +kernel) rfl
theorem wdO5 : Cond.arrayOver (.object RX2) ∈ GW := gwt0 106 (by decide +kernel) rfl
theorem wdO6 : Cond.arrayOver (.object RX6) ∈ GW := gwt0 158 (by decide +kernel) rfl
theorem wdO7 : Cond.arrayOver (.object RX5) ∈ GW := gwt0 185 (by decide +kernel) rfl
