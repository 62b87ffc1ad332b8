/-! statements, mathematically: place, draft, names of doughs and shops, settings given -/
section TX5
abbrev PSt : Type := Nat × (Nat → Int) × (Nat → Nat × Nat) × (Nat → Nat × Nat) × (Nat → Int)
abbrev RSt : Type := (Int × Nat) ⊕ PSt
def stI (δ : Nat → Int) (k : Nat) (v : Int) : Nat → Int := fun i => if i = k then v else δ i
def stN (nm : Nat → Nat × Nat) (k : Nat) (v : Nat × Nat) : Nat → Nat × Nat := fun i => if i = k then v else nm i
def fin1 (r : RS1) (f : Int → Nat → PSt) : RSt := match r with
  | .inl g => .inl g
  | .inr q => .inr (f q.1 q.2)
section
variable (T : Nat → Int) (L : Nat) (S : PSt)
def sSet (k : Nat) (lo hi : Int) : RSt := fin1 (rSet T L (S.2.2.2.2 k) lo hi S.1) (fun v q => (q, stI S.2.1 k v, S.2.2.1, S.2.2.2.1, stI S.2.2.2.2 k 1))
def sVan : RSt := fin1 (bnd (nxS (rBeg T L 3 (S.2.1 8).toNat S.1)) (rNum T L 1 2000)) (fun v q => (q, stI (stI S.2.1 (166 + (S.2.1 8).toNat) v) 8 (S.2.1 8 + 1), S.2.2.1, S.2.2.2.1, S.2.2.2.2))
def wdS (s : RS0) : Nat × Nat := match s with
  | .inl _ => (0, 0)
  | .inr p => (p, enF T L p - p)
def sShop : RSt := fin1 (bnd (nxS (rBeg T L 7 (S.2.1 6).toNat S.1)) (rNew T L S.2.2.2.1 (S.2.1 6).toNat)) (fun _ q => (q, stI S.2.1 6 (S.2.1 6 + 1), S.2.2.1, stN S.2.2.2.1 (S.2.1 6).toNat (wdS T L (nxS (rBeg T L 7 (S.2.1 6).toNat S.1))), S.2.2.2.2))
/-- fields one behind another: the fault, or the values -/
def flds : List (Nat × Int × Int) → RS0 → List RS1
  | [], _ => []
  | (w, lo, hi) :: l, s => bnd s (rFld T L w lo hi) :: flds l (nxS (bnd s (rFld T L w lo hi)))
end
def dFl : List (Nat × Int × Int) := [(5, 1, 120), (6, 0, 300), (7, 1, 120), (8, 0, 300), (9, 0, 240), (10, 1, 120), (11, 100, 300), (12, 5, 200), (13, 1, 1440), (14, 0, 999)]
def oFl : List (Nat × Int × Int) := [(16, 1, 6), (11, 20, 300), (17, 1, 50)]
section
variable (T : Nat → Int) (L : Nat) (S : PSt)
def dSt : RS0 := nxS (bnd (nxS (rBeg T L 6 (S.2.1 4).toNat S.1)) (rNew T L S.2.2.1 (S.2.1 4).toNat))
def dRs : List RS1 := flds T L dFl (dSt T L S)
def rowI (δ : Nat → Int) (at' len : Nat) (l : List RS1) : Nat → Int := fun i => if at' ≤ i ∧ i < at' + len then vaS (l.getD (i - at') (.inl (0, 0))) else δ i
def sDough : RSt := fin1 ((dRs T L S).getD 9 (.inl (0, 0))) (fun _ q => (q, stI (rowI S.2.1 (10 + 10 * (S.2.1 4).toNat) 10 (dRs T L S)) 4 (S.2.1 4 + 1), stN S.2.2.1 (S.2.1 4).toNat (wdS T L (nxS (rBeg T L 6 (S.2.1 4).toNat S.1))), S.2.2.2.1, S.2.2.2.2))
def oRs : List RS1 := flds T L oFl (nxS (rBeg T L 4 (S.2.1 5).toNat S.1))
def sOven : RSt := fin1 ((oRs T L S).getD 2 (.inl (0, 0))) (fun _ q => (q, stI (rowI S.2.1 (70 + 4 * (S.2.1 5).toNat) 3 (oRs T L S)) 5 (S.2.1 5 + 1), S.2.2.1, S.2.2.2.1, S.2.2.2.2))
def plR (v : Int) : Int := if v = 7 then 0 else v + 1
def t1S : RS1 := bnd (nxS (rBeg T L 20 (S.2.1 7).toNat S.1)) (rPl T L S.2.2.2.1 (S.2.1 6).toNat (-1))
def t2S : RS1 := bnd (nxS (t1S T L S)) (rPl T L S.2.2.2.1 (S.2.1 6).toNat (vaS (t1S T L S)))
def sStreet : RSt := fin1 (bnd (nxS (t2S T L S)) (rNum T L 1 120)) (fun v q => (q, stI (stI (stI (stI S.2.1 (86 + 4 * (S.2.1 7).toNat) (plR (vaS (t1S T L S)))) (86 + 4 * (S.2.1 7).toNat + 1) (plR (vaS (t2S T L S)))) (86 + 4 * (S.2.1 7).toNat + 2) v) 7 (S.2.1 7 + 1), S.2.2.1, S.2.2.2.1, S.2.2.2.2))
def o1S : RS1 := bnd (nxS (rBeg T L 24 (S.2.1 9).toNat S.1)) (rKnw T L S.2.2.2.1 (S.2.1 6).toNat)
def o2S : RS1 := bnd (nxS (o1S T L S)) (rKnw T L S.2.2.1 (S.2.1 4).toNat)
def o3S : RS1 := bnd (nxS (o2S T L S)) (rNum T L 1 200)
def sOrder : RSt := fin1 (bnd (nxS (o3S T L S)) (rFld T L 22 0 1439)) (fun v q => (q, stI (stI (stI (stI (stI S.2.1 (169 + 5 * (S.2.1 9).toNat) (vaS (o1S T L S))) (169 + 5 * (S.2.1 9).toNat + 1) (vaS (o2S T L S))) (169 + 5 * (S.2.1 9).toNat + 2) (vaS (o3S T L S))) (169 + 5 * (S.2.1 9).toNat + 3) v) 9 (S.2.1 9 + 1), S.2.2.1, S.2.2.2.1, S.2.2.2.2))
end
/-- what holds of a state between statements -/
def PSV (T : Nat → Int) (L : Nat) (S : PSt) : Prop := V S.2.1 ∧ V0 S.2.1 ∧ NV T S.2.2.1 (S.2.1 4).toNat ∧ NV T S.2.2.2.1 (S.2.1 6).toNat ∧ (∀ k, k < 4 → S.2.2.2.2 k = 0 ∨ S.2.2.2.2 k = 1) ∧ (∀ o, o < 4 → ovF S.2.1 o 3 = 0) ∧ (∀ s, s < 20 → stF S.2.1 s 3 = 0) ∧ (∀ o, o < 24 → oF S.2.1 o 4 = 0)
/-- the class holds it -/
def PSC5 (σ : xS) (b : Nat) (T : Nat → Int) (L p : Nat) (δ : Nat → Int) (dn sn : Nat → Nat × Nat) (g : Nat → Int) : Prop := CG σ T L p ∧ Bk σ b δ 0 ∧ CN σ 4 T dn (δ 4).toNat ∧ CN σ 5 T sn (δ 6).toNat ∧ ∀ k, k < 4 → σ 2 (3 + k) = g k
def PSC (σ : xS) (b : Nat) (T : Nat → Int) (L : Nat) (S : PSt) : Prop := PSC5 σ b T L S.1 S.2.1 S.2.2.1 S.2.2.2.1 S.2.2.2.2
def PRC (σ : xS) (b : Nat) (T : Nat → Int) (L : Nat) (r : RSt) : Prop := match r with
  | .inl f => CX σ T L f
  | .inr S => PSC σ b T L S
/-- what the class's parser may change -/
def pfB (b : Nat) (σ τ : xS) : Prop := ∀ k j, ¬ (2 ≤ k ∧ k ≤ 5) → ¬ (b ≤ k ∧ k < b + 45) → τ k j = σ k j
variable {T : Nat → Int} {L p : Nat} {σ τ υ : xS} {n b : Nat} {s : RS0} {f : Int × Nat} {S : PSt} {δ δ' : Nat → Int}
/-- a family of rows that stays -/
theorem keepD (h : ∀ d : Nat, (d : Int) < δ 4 → ∀ w, w < 10 → σ (b + 2 + d) w = dF δ d w) (v : δ 4 ≤ 6) (hc : δ' 4 = δ 4) (ht : ∀ k j, b + 2 ≤ k → k < b + 8 → τ k j = σ k j) (hd : ∀ i, 10 ≤ i → i < 70 → δ' i = δ i) : ∀ d : Nat, (d : Int) < δ' 4 → ∀ w, w < 10 → τ (b + 2 + d) w = dF δ' d w := fun d hd' w hw => by
  rw [hc] at hd'
  rw [ht _ _ (by omega) (by omega), h d hd' w hw]
  exact (hd _ (by omega) (by omega)).symm
theorem keepO (h : ∀ o : Nat, (o : Int) < δ 5 → ∀ w, w < 4 → σ (b + 9 + o) w = ovF δ o w) (v : δ 5 ≤ 4) (hc : δ' 5 = δ 5) (ht : ∀ k j, b + 9 ≤ k → k < b + 13 → τ k j = σ k j) (hd : ∀ i, 70 ≤ i → i < 86 → δ' i = δ i) : ∀ o : Nat, (o : Int) < δ' 5 → ∀ w, w < 4 → τ (b + 9 + o) w = ovF δ' o w := fun o ho w hw => by
  rw [hc] at ho
  rw [ht _ _ (by omega) (by omega), h o ho w hw]
  exact (hd _ (by omega) (by omega)).symm
theorem keepS (h : ∀ s : Nat, (s : Int) < δ 7 → σ (b + 39 + 1) s = plC (stF δ s 0) ∧ σ (b + 39 + 2) s = plC (stF δ s 1) ∧ σ (b + 39 + 3) s = stF δ s 2 ∧ σ (b + 39 + 4) s = stF δ s 3) (v : δ 7 ≤ 20) (hc : δ' 7 = δ 7) (ht : ∀ k j, b + 40 ≤ k → k < b + 44 → τ k j = σ k j) (hd : ∀ i, 86 ≤ i → i < 166 → δ' i = δ i) : ∀ s : Nat, (s : Int) < δ' 7 → τ (b + 39 + 1) s = plC (stF δ' s 0) ∧ τ (b + 39 + 2) s = plC (stF δ' s 1) ∧ τ (b + 39 + 3) s = stF δ' s 2 ∧ τ (b + 39 + 4) s = stF δ' s 3 := fun s hs => by
  rw [hc] at hs
  have e : ∀ w, w < 4 → stF δ' s w = stF δ s w := fun w hw => hd _ (by omega) (by omega)
  rw [ht _ _ (by omega) (by omega), ht _ _ (by omega) (by omega), ht _ _ (by omega) (by omega), ht _ _ (by omega) (by omega), e 0 (by omega), e 1 (by omega), e 2 (by omega), e 3 (by omega)]
  exact h s hs
theorem keepV (h : ∀ v : Nat, (v : Int) < δ 8 → σ (b + 38) v = vnF δ v + (if v = 0 then 0 else 0)) (v : δ 8 ≤ 3) (hc : δ' 8 = δ 8) (ht : ∀ j, τ (b + 38) j = σ (b + 38) j) (hd : ∀ i, 166 ≤ i → i < 169 → δ' i = δ i) : ∀ v : Nat, (v : Int) < δ' 8 → τ (b + 38) v = vnF δ' v + (if v = 0 then 0 else 0) := fun v hv => by
  rw [hc] at hv
  rw [ht, h v hv, show vnF δ' v = vnF δ v from hd _ (by omega) (by omega)]
theorem keepR (h : ∀ o : Nat, (o : Int) < δ 9 → ∀ w, w < 5 → σ (b + 14 + o) w = oF δ o w) (v : δ 9 ≤ 24) (hc : δ' 9 = δ 9) (ht : ∀ k j, b + 14 ≤ k → k < b + 38 → τ k j = σ k j) (hd : ∀ i, 169 ≤ i → i < 289 → δ' i = δ i) : ∀ o : Nat, (o : Int) < δ' 9 → ∀ w, w < 5 → τ (b + 14 + o) w = oF δ' o w := fun o ho w hw => by
  rw [hc] at ho
  rw [ht _ _ (by omega) (by omega), h o ho w hw]
  exact (hd _ (by omega) (by omega)).symm
theorem stI_ne {k i : Nat} {v : Int} (h : i ≠ k) : stI δ k v i = δ i := if_neg h
theorem stI_eq {k : Nat} {v : Int} : stI δ k v k = v := if_pos rfl
theorem CN_same {k1 : Nat} {nm : Nat → Nat × Nat} {cnt : Nat} (h : CN σ k1 T nm cnt) (hs : ∀ j, j < cnt → τ k1 j = σ k1 j) : CN τ k1 T nm cnt := fun i hi => by
  rw [hs i hi]
  exact h i hi
/-- a setting: the class's cell c of the bakery, its flag -/
theorem c_setting {k : Nat} {lo hi : Int} (hk : k < 4) (h : PSC σ b T L S) (hV : PSV T L S) (hb : 6 ≤ b) (hlo : 0 ≤ lo ∧ lo ≤ hi ∧ hi ≤ 10000) (hn : 4000000 ≤ n) {ρ : Type} {F : xS → Option ρ} {Q : ρ → Prop}
    (hF : ∀ τ, PRC τ b T L (sSet T L S k lo hi) → pfB b σ τ → OK (F τ) Q) : OK (xbS (m_X7_readSetting n (σ 2 (3 + k)) lo hi σ) fun v s => xlet (xput s b k v) fun s' => xlet (xput s' 2 (3 + k) 1) fun s'' => F s'') Q := by
  obtain ⟨hG, hB, hN1, hN2, hg⟩ := h
  obtain ⟨hV1, hV0, hNV1, hNV2, hgv, -⟩ := hV
  rw [hg k hk]
  refine OK_xbS (c_readSetting hG (hgv k hk) hlo hn) (fun v τ hh => ?_)
  obtain ⟨⟨r1, r2⟩, r3⟩ := hh
  dsimp only at r1 r2 r3
  rw [xlet_eq, xlet_eq]
  have hfr : ∀ i j, ¬ (i = 2 ∧ (j = 7 ∨ j = 8)) → ¬ (i = 3 ∧ (j = 2 ∨ j = 3 ∨ j = 4)) → ¬ (i = b ∧ j = k) → ¬ (i = 2 ∧ j = 3 + k) → (xput (xput τ b k v) 2 (3 + k) 1) i j = σ i j := fun i j c1 c2 c3 c4 => by
    rw [xput_ne c4, xput_ne c3]
    exact r3 i j c1 c2
  refine hF _ ?_ (fun i j c1 c2 => hfr i j (by omega) (by omega) (by omega) (by omega))
  have hCS : CS (xput (xput τ b k v) 2 (3 + k) 1) T L (nxS (rSet T L (S.2.2.2.2 k) lo hi S.1)) := CS_same r1 (fun i j c => by rw [xput_ne (by omega), xput_ne (by omega)])
  unfold sSet
  cases hr : rSet T L (S.2.2.2.2 k) lo hi S.1 with
  | inl g =>
    rw [hr] at hCS
    exact hCS
  | inr q =>
    rw [hr] at hCS
    have hv := r2 q hr
    have v4 := hV1.2.2.2.2.1
    have v5 := hV1.2.2.2.2.2.1
    have v6 := hV1.2.2.2.2.2.2.1
    have v7 := hV1.2.2.2.2.2.2.2.1
    have v8 := hV1.2.2.2.2.2.2.2.2.1
    have v9 := hV1.2.2.2.2.2.2.2.2.2.1
    obtain ⟨b0, b1, b2, b3, b4, b5, b6, b7, b8, b9, bd, bo, bs, bv, br⟩ := hB
    have hsc : ∀ i : Nat, i < 4 → (xput (xput τ b k v) 2 (3 + k) 1) b i = stI S.2.1 k q.1 i := fun i hi => by
      by_cases c : i = k
      · rw [c, xput_ne (by omega), xput_eq, stI_eq]
        exact hv
      · rw [hfr _ _ (by omega) (by omega) (by omega) (by omega), stI_ne c]
        have : i = 0 ∨ i = 1 ∨ i = 2 ∨ i = 3 := by omega
        rcases this with rfl | rfl | rfl | rfl
        · exact b0
        · exact b1
        · exact b2
        · exact b3
    have hst : ∀ i, 4 ≤ i → stI S.2.1 k q.1 i = S.2.1 i := fun i hi => stI_ne (by omega)
    show PSC5 _ b T L q.2 (stI S.2.1 k q.1) S.2.2.1 S.2.2.2.1 (stI S.2.2.2.2 k 1)
    refine ⟨hCS, ⟨hsc 0 (by omega), hsc 1 (by omega), hsc 2 (by omega), hsc 3 (by omega), ?_, ?_, ?_, ?_, ?_, ?_, ?_, ?_, ?_, ?_, ?_⟩, ?_, ?_, fun i hi => ?_⟩
    · rw [hfr _ _ (by omega) (by omega) (by omega) (by omega), hst _ (by omega)]; exact b4
    · rw [hfr _ _ (by omega) (by omega) (by omega) (by omega), hst _ (by omega)]; exact b5
    · rw [hfr _ _ (by omega) (by omega) (by omega) (by omega), hst _ (by omega)]; exact b6
    · rw [hfr _ _ (by omega) (by omega) (by omega) (by omega), hst _ (by omega)]; exact b7
    · rw [hfr _ _ (by omega) (by omega) (by omega) (by omega), hst _ (by omega)]; exact b8
    · rw [hfr _ _ (by omega) (by omega) (by omega) (by omega), hst _ (by omega)]; exact b9
    · exact keepD bd v4.2 (hst _ (by omega)) (fun i j c1 c2 => hfr _ _ (by omega) (by omega) (by omega) (by omega)) (fun i c1 c2 => hst i (by omega))
    · exact keepO bo v5.2 (hst _ (by omega)) (fun i j c1 c2 => hfr _ _ (by omega) (by omega) (by omega) (by omega)) (fun i c1 c2 => hst i (by omega))
    · exact keepS bs v7.2 (hst _ (by omega)) (fun i j c1 c2 => hfr _ _ (by omega) (by omega) (by omega) (by omega)) (fun i c1 c2 => hst i (by omega))
    · exact keepV bv v8.2 (hst _ (by omega)) (fun j => hfr _ _ (by omega) (by omega) (by omega) (by omega)) (fun i c1 c2 => hst i (by omega))
    · exact keepR br v9.2 (hst _ (by omega)) (fun i j c1 c2 => hfr _ _ (by omega) (by omega) (by omega) (by omega)) (fun i c1 c2 => hst i (by omega))
    · rw [hst 4 (by omega)]
      exact CN_same hN1 (fun j _ => hfr _ _ (by omega) (by omega) (by omega) (by omega))
    · rw [hst 6 (by omega)]
      exact CN_same hN2 (fun j _ => hfr _ _ (by omega) (by omega) (by omega) (by omega))
    · by_cases c : i = k
      · rw [c, xput_eq, stI_eq]
      · rw [hfr _ _ (by omega) (by omega) (by omega) (by omega), stI_ne c]
        exact hg i hi
end TX5
