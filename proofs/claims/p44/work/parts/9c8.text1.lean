/-! TEXTS: a StringBuilder that holds letters; the law's appends as single rows -/
/-- letters of a byte row, at most N -/
def sT (E : xE) (M : tMp) (b v : Nat) (t : List Int32) (cap N : Nat) : Prop := ∃ f, sB E M b v t.length cap f ∧ t.length ≤ cap ∧ cap ≤ 4000 ∧ bF f ∧ (∀ k, k < t.length → f k = t.getD k 0) ∧ t.length ≤ N
/-- a String among the temporary cells -/
def sS (E : xE) (M : tMp) (a w : Nat) (u : List Int32) (N : Nat) : Prop := M a = some (.inr (11, [.ref w, iV 0, .int 0, .int 0])) ∧ (∃ g, M w = some (.inl (E.2.1.1 2, u.length, .inl g)) ∧ bF g ∧ ∀ k, k < u.length → g k = u.getD k 0) ∧ u.length ≤ N
def bL (u : List Int32) : Prop := bF (fun k => u.getD k 0)
theorem getD_app {t u : List Int32} {k : Nat} : (t ++ u).getD k 0 = if k < t.length then t.getD k 0 else u.getD (k - t.length) 0 := by
  rw [List.getD_eq_getElem?_getD, List.getD_eq_getElem?_getD, List.getD_eq_getElem?_getD]
  split
  · rw [List.getElem?_append_left (by assumption)]
  · rw [List.getElem?_append_right (by omega)]
theorem sT_app {E : xE} {M2 : tMp} {b v2 cap2 m N K : Nat} {t u : List Int32} {f f2 : Nat → Int32} (hu : u.length = m) (hk : ∀ k, k < t.length → f k = t.getD k 0) (hN : t.length ≤ N) (hK : m ≤ K) (h1 : sB E M2 b v2 (t.length + m) cap2 f2) (h2 : t.length + m ≤ cap2) (h3 : cap2 ≤ 4000) (h4 : bF f2) (h5 : ∀ k, k < t.length → f2 k = f k) (h6 : ∀ k, k < m → f2 (t.length + k) = u.getD k 0) : sT E M2 b v2 (t ++ u) cap2 (N + K) := by
  have e : (t ++ u).length = t.length + m := by rw [List.length_append, hu]
  refine ⟨f2, by rw [e]; exact h1, by rw [e]; exact h2, h3, h4, fun k hk2 => ?_, by rw [e]; omega⟩
  rw [e] at hk2
  rw [getD_app]
  by_cases c : k < t.length
  · rw [if_pos c, h5 k c, hk k c]
  · rw [if_neg c]
    have := h6 (k - t.length) (by omega)
    rw [show t.length + (k - t.length) = k by omega] at this
    exact this
/-- what else is there stays -/
def tKp (M M2 : tMp) (b v v2 : Nat) : Prop := ∀ w e, w ≠ b → w ≠ v → M w = some e → M2 w = some e ∧ w ≠ v2
theorem dn_le (v : Nat) : dn v ≤ 4 := by
  unfold dn
  repeat' split
  all_goals omega
theorem va_D_iff {A : Nat → Prop} {ws : va_W} : va_D A ws ↔ ws.Pairwise (fun p q => p.1 ≠ q.1) ∧ ∀ q ∈ ws, A q.1 := by
  refine ⟨fun h => ⟨List.pairwise_iff_getElem.mpr fun i j hi hj hij c => ?_, fun q hq => ?_⟩, fun h => ⟨fun i j p q hi hj hpq => ?_, fun k q hk => h.2 q (List.mem_of_getElem? hk)⟩⟩
  · have := h.1 i j _ _ (List.getElem?_eq_getElem hi) (List.getElem?_eq_getElem hj) c
    omega
  · obtain ⟨k, hk⟩ := List.getElem?_of_mem hq
    exact h.2 k q hk
  · obtain ⟨hi', rfl⟩ := List.getElem?_eq_some_iff.mp hi
    obtain ⟨hj', rfl⟩ := List.getElem?_eq_some_iff.mp hj
    have hp := List.pairwise_iff_getElem.mp h.1
    rcases Nat.lt_trichotomy i j with c | c | c
    · exact absurd hpq (hp i j hi' hj' c)
    · exact c
    · exact absurd hpq.symm (hp j i hj' hi' c)
/-- two cells are let go: nobody writes them from here -/
theorem tH_drop {E : xE} {A : Nat → Prop} {M : tMp} {H : Heap} {a w : Nat} (h : tH E A M H) : tH E (fun q => A q ∧ q ≠ a ∧ q ≠ w) (fun q => if q = a ∨ q = w then none else M q) H := by
  obtain ⟨ws, hP, hD, hm⟩ := h
  obtain ⟨hD1, hD2⟩ := va_D_iff.mp hD
  refine ⟨ws.filter (fun q => decide (q.1 ≠ a ∧ q.1 ≠ w)), fun k q hk => ?_, va_D_iff.mpr ⟨hD1.filter _, fun q hq => ?_⟩, fun b e hb => ?_⟩
  · have := List.mem_of_getElem? hk
    obtain ⟨h1, -⟩ := List.mem_filter.mp this
    obtain ⟨k', hk'⟩ := List.getElem?_of_mem h1
    exact hP k' q hk'
  · obtain ⟨h1, h2⟩ := List.mem_filter.mp hq
    have h3 := of_decide_eq_true h2
    exact ⟨hD2 q h1, h3.1, h3.2⟩
  · have hb : (if b = a ∨ b = w then none else M b) = some e := hb
    by_cases c : b = a ∨ b = w
    · rw [if_pos c] at hb
      cases hb
    · rw [if_neg c] at hb
      obtain ⟨k, hk⟩ := hm b e hb
      exact List.getElem?_of_mem (List.mem_filter.mpr ⟨List.mem_of_getElem? hk, decide_eq_true ⟨fun x => c (Or.inl x), fun x => c (Or.inr x)⟩⟩)
section TTEXT
variable {X : xX} {A : Nat → Prop} {ss : tSs} {Q : State → Prop} {M : tMp} {nk nz pc : Nat} {L : List (Nat × Value)} {st : List Value} {cc : ByteArray} {own : String} {ret : Option FieldType} {rm : Room} {nL : Nat}
theorem tw_widen {nk' nz' : Nat} (h1 : nk ≤ nk') (h2 : nz ≤ nz') (kk : TO X A Q M nk' nz' pc L st) : TO X A Q M nk nz pc L st := fun H locs hR ls hl => W.widen h1 h2 (kk H locs hR ls hl)
theorem tw_irem (C : tCx X A ss cc own ret rm nL) {x y x' y' : Int} (hx : zI x = x') (hy : zI y = y') (h0 : y' ≠ 0) (d : decode cc pc = .ok (.irem, 1)) (k : TO X A Q M nk nz (pc + 1) L (iV (x - x'.tdiv y' * y) :: st)) : TO X A Q M nk nz pc L (iV y :: iV x :: st) := by
  subst hx
  subst hy
  intro H locs hR ls hl
  have := k H locs hR ls hl
  unfold iV at this ⊢
  rw [Int32.ofInt_sub, Int32.ofInt_mul, i_div] at this
  exact lv_irem C.1 C.2.1 d (fun q => h0 (i_eq0.mp q)) this
theorem tw_ildT (C : tCx X A ss cc own ret rm nL) {t N : Nat} {f : Nat → Int32} (hT : va_T .int t N (fun j => .int (f j)) A (xXs X) (xXs X).heap) {i i' : Int} (hi : zI i = i') (hlo : 0 ≤ i') (hhi : i' < N) (d : decode cc pc = .ok (.iaload, 1)) (kk : TO X A Q M nk nz (pc + 1) L (iV (f i'.toNat).toInt :: st)) : TO X A Q M nk nz pc L (iV i :: .ref t :: st) := by
  subst hi
  intro H locs hR ls hl
  refine va_ti C.1 C.2.1 hT hR.2 (xin ⟨hlo, hhi⟩) (v := iV (f (zI i).toNat).toInt) ?_ d (kk H locs hR ls hl)
  show Value.int (f (zI i).toNat) = .int (Int32.ofInt (f (zI i).toNat).toInt)
  rw [Int32.ofInt_toInt]
theorem tw_ldcS (C : tCx X A ss cc "BakeryNightLaw" ret rm nL) {index i : Nat} {tx : String} (hq : (index, tx, i) ∈ SLl) (d : decode cc pc = .ok (.ldc index, 2)) (kk : TO X A Q M nk nz (pc + 2) L (.ref ((xXE X).2.1.2.2 5 i) :: st)) : TO X A Q M nk nz pc L st := fun H locs hR ls hl =>
  va_ldcS C.1 C.2.1 C.2.2.2.1 (C.2.2.2.2.2.2.2.2.2.2.2.2.2.1.2.1 _ hq) d (kk H locs hR ls hl)
theorem tw_appS (C : tCx X A ss cc "BakeryNightLaw" ret rm nL) (i : Nat) {b v cap N : Nat} {t : List Int32} (u : List Int32) (K : Nat) (hi : i < 27) (hu : bytLS.getD i [] = u) (hlen : lenLS.getD i 0 = u.length) (hK : u.length = K) (hbL : bL u) (hb : sT (xXE X) M b v t cap N) (hm : N + K ≤ 1900) (hroom : 6 ≤ rm.frames ∧ 246 ≤ rm.locals) (hz : nk + 1 ≤ rm.cells ∧ nz + 4000 ≤ rm.slots) (hcat : (st.map fun v => v.category).sum ≤ 8) (d : decode cc pc = .ok (.invokevirtual 103, 3)) (kk : ∀ M2 v2 cap2, sT (xXE X) M2 b v2 (t ++ u) cap2 (N + K) → tKp M M2 b v v2 → TO X A Q M2 (nk + 1) (nz + 4000) (pc + 3) L (.ref b :: st)) : TO X A Q M nk nz pc L (.ref ((xXE X).2.1.2.2 5 i) :: .ref b :: st) := by
  obtain ⟨f, hb1, h2, h3, h4, h5, h6⟩ := hb
  subst hK
  refine tw_callV C (A1 := A) (ss1 := [.inl ((xXE X).2.1.2.2 5 i, (xXE X).2.1.2.2 6 i, u.length, fun k => u.getD k 0)]) (M1 := M) ⟨fun _ h => h, fun H locs hR U hU hW => ?_⟩ (As := [.ref ((xXE X).2.1.2.2 5 i)]) (tc_J4_append_15ec4 _ _ _ _ _ b v t.length cap f hb1 _ _ u.length (fun k => u.getD k 0) (List.mem_singleton.mpr rfl) h4 hbL h3 h2 (by omega)) mt_J4_append_15ec4 vr_J4_append_15ec4 wd1129 (tRc_M C cls_J4 hb1.1) rfl hroom hz rfl hcat d ?_
  · have h := (tGo_same C).2 H locs hR U hU hW
    refine ⟨h.1, h.2.1, h.2.2.1, h.2.2.2.1, h.2.2.2.2.1, h.2.2.2.2.2.1, h.2.2.2.2.2.2.1, fun q hq => ?_⟩
    rw [List.mem_singleton.mp hq]
    have h9 := h.2.2.2.2.2.1.1 i hi
    rw [hu, hlen] at h9
    exact h9
  · rintro _ M2 ⟨rfl, v2, cap2, f2, k1, k2, k3, k4, k5, k6, k7⟩
    exact kk M2 v2 cap2 (sT_app rfl h5 h6 (Nat.le_refl _) k1 k2 k3 k4 k5 k6) k7
theorem tw_appI (C : tCx X A ss cc "BakeryNightLaw" ret rm nL) {b v cap N x : Nat} {t : List Int32} (hx : x < 10000) (hb : sT (xXE X) M b v t cap N) (hm : N + 4 ≤ 1900) (hroom : 6 ≤ rm.frames ∧ 246 ≤ rm.locals) (hz : nk + 1 ≤ rm.cells ∧ nz + 4000 ≤ rm.slots) (hcat : (st.map fun v => v.category).sum ≤ 8) (d : decode cc pc = .ok (.invokevirtual 107, 3)) (kk : ∀ M2 v2 cap2, sT (xXE X) M2 b v2 (t ++ dec x) cap2 (N + 4) → tKp M M2 b v v2 → TO X A Q M2 (nk + 1) (nz + 4000) (pc + 3) L (.ref b :: st)) : TO X A Q M nk nz pc L (iV (x : Int) :: .ref b :: st) := by
  obtain ⟨f, hb1, h2, h3, h4, h5, h6⟩ := hb
  have hd := dn_le x
  refine tw_callV C (tGo_same C) (As := [iV (x : Int)]) (tc_J4_append_bf812 _ _ _ _ _ b v t.length cap f hb1 h4 h3 h2 x hx (by omega)) mt_J4_append_bf812 vr_J4_append_bf812 wd1224 (tRc_M C cls_J4 hb1.1) rfl hroom hz rfl hcat d ?_
  rintro _ M2 ⟨rfl, v2, cap2, f2, k1, k2, k3, k4, k5, k6, k7⟩
  exact kk M2 v2 cap2 (sT_app (dec_len x) h5 h6 hd k1 k2 k3 k4 k5 k6) k7
/-- a String among the temporary cells as one that no walk writes -/
theorem Str_ofM (C : tCx X A ss cc own ret rm nL) {H : Heap} {locs : List Loc} (hR : tR X A M H locs) {a w n : Nat} {g : Nat → Int32} (ha : M a = some (.inr (11, [.ref w, iV 0, .int 0, .int 0]))) (hw : M w = some (.inl ((xXE X).2.1.1 2, n, .inl g))) : Str a w n g (fun q => A q ∧ q ≠ a ∧ q ≠ w) (xXs X) H := by
  obtain ⟨-, r0, h1, cell, q1, q2, q3, q4⟩ := tH_A hR.1 ha
  have h2 : H[w]? = some (vp_cell ((xXE X).2.1.1 2) (n, .inl g)) := (tH_A hR.1 hw).2
  have hr : r0 = (RJ0, TJ0, 4) := Option.some.inj (h1.symm.trans cls_J0.1)
  subst hr
  obtain ⟨hS, hfc, kC, hkC, hkind⟩ := C.2.2.2.2.2.1.1 11 _ cls_J0.1
  have fld : ∀ (j : Nat) (v : Value), j < 4 → vp_V [.ref w, iV 0, .int 0, .int 0] j = v → va_OF (TJ0 j).1 (TJ0 j).2.1 (TJ0 j).2.2.1 v a (fun q => A q ∧ q ≠ a ∧ q ≠ w) (xXs X) H := fun j v hj hv => by
    obtain ⟨cf, kf, fi, f, hi, hsl⟩ := hS j hj
    have hst := (u_facts hfc hkC (u_lays C.2.2.2.2.1 cls_J0.2.1 hj) hi).1
    exact ⟨cf, kf, fi, f, cell, hi, hst, q1, (by rw [q3]; exact (fun h => by cases h)), (by rw [hsl, q4 j hj, ← hv]), fun h => h.2.1 rfl⟩
  refine ⟨⟨cell, q1, by rw [q3]; rfl, by rw [q2]; exact hfc, fun h => h.2.1 rfl⟩, fld 1 (.int 0) (by decide) rfl, fld 0 (.ref w) (by decide) rfl, ?_⟩
  refine ⟨_, h2, (C.2.2.2.2.2.1.2 2 _ rfl).1 n (fun j => .int (g j)), (fun h => by cases h), ?_, ?_, fun j hj => ?_, fun h => h.2.2 rfl⟩
  · rw [vp_cell_i, arrV_size]
    exact Nat.le_refl _
  · rw [vp_cell_i, arrV_size]
  · rw [vp_cell_i]
    exact arrV_read _ _ hj
/-- what a call is given that reads the String at a -/
theorem tGo_drop (C : tCx X A ss cc own ret rm nL) {a w n : Nat} {g : Nat → Int32} (ha : M a = some (.inr (11, [.ref w, iV 0, .int 0, .int 0]))) (hw : M w = some (.inl ((xXE X).2.1.1 2, n, .inl g))) : tGo X A M (fun q => A q ∧ q ≠ a ∧ q ≠ w) [.inl (a, w, n, g)] (fun q => if q = a ∨ q = w then none else M q) := by
  refine ⟨fun q h => h.1, fun H locs hR U hU hW => ?_⟩
  have h := (tGo_same C).2 H locs hR U hU hW
  have hs := Str_ofM C hR ha hw
  have l1 : a < H.size := by
    obtain ⟨-, r0, h1, cell, q1, -⟩ := tH_A hR.1 ha
    exact (Array.getElem?_eq_some_iff.mp q1).1
  have l2 : w < H.size := (Array.getElem?_eq_some_iff.mp (tH_A hR.1 hw).2).1
  refine ⟨by rw [hU]; exact tH_drop hR.1, fun q hq => ⟨h.2.1 q hq, by rw [hU] at hq; omega, by rw [hU] at hq; omega⟩, h.2.2.1, ?_⟩
  have hK := tK_narrow (B := fun q => A q ∧ q ≠ a ∧ q ≠ w) h.2.2.2 (fun q hq => hq.1)
  refine ⟨hK.1, hK.2.1, hK.2.2.1, hK.2.2.2.1, fun q hq => ?_⟩
  rw [List.mem_singleton.mp hq, hU]
  exact Str_kept hW (fun _ _ _ => rfl) hs
/-- append of a String among the temporary cells: it is let go -/
theorem tw_appM (C : tCx X A ss cc "BakeryNightLaw" ret rm nL) {a w b v cap N K : Nat} {t u : List Int32} (hs : sS (xXE X) M a w u K) (hvw : v ≠ w) (hb : sT (xXE X) M b v t cap N) (hm : N + K ≤ 1900) (hroom : 6 ≤ rm.frames ∧ 246 ≤ rm.locals) (hz : nk + 1 ≤ rm.cells ∧ nz + 4000 ≤ rm.slots) (hcat : (st.map fun v => v.category).sum ≤ 8) (d : decode cc pc = .ok (.invokevirtual 103, 3)) (kk : ∀ M2 v2 cap2, sT (xXE X) M2 b v2 (t ++ u) cap2 (N + K) → (∀ q e, q ≠ b → q ≠ v → q ≠ a → q ≠ w → M q = some e → M2 q = some e ∧ q ≠ v2) → TO X A Q M2 (nk + 1) (nz + 4000) (pc + 3) L (.ref b :: st)) : TO X A Q M nk nz pc L (.ref a :: .ref b :: st) := by
  obtain ⟨f, hb1, h2, h3, h4, h5, h6⟩ := hb
  obtain ⟨ha, ⟨g, hw, hg, hgu⟩, hK⟩ := hs
  have hba : b ≠ a := fun c => by have h1 := hb1.1; rw [c, ha] at h1; cases h1
  have hbw : b ≠ w := fun c => by have h1 := hb1.1; rw [c, hw] at h1; cases h1
  have hva : v ≠ a := fun c => by have h1 := hb1.2; rw [c, ha] at h1; cases h1
  refine tw_callV C (tGo_drop C ha hw) (As := [.ref a]) (tc_J4_append_15ec4 _ _ _ _ _ b v t.length cap f ⟨(if_neg (fun c => c.elim hba hbw)).trans hb1.1, (if_neg (fun c => c.elim hva hvw)).trans hb1.2⟩ a w u.length g (List.mem_singleton.mpr rfl) h4 hg h3 h2 (by omega)) mt_J4_append_15ec4 vr_J4_append_15ec4 wd1129 (tRc_M C cls_J4 hb1.1) rfl hroom hz rfl hcat d ?_
  rintro _ M2 ⟨rfl, v2, cap2, f2, k1, k2, k3, k4, k5, k6, k7⟩
  refine kk M2 v2 cap2 (sT_app rfl h5 h6 hK k1 k2 k3 k4 k5 (fun k hk => (k6 k hk).trans (hgu k hk))) (fun q e c1 c2 c3 c4 h => k7 q e c1 c2 ?_)
  rw [if_neg (fun c => c.elim c3 c4)]
  exact h
end TTEXT
