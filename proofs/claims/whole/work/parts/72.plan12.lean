/-! the reference drives an assignment -/
section PLC
variable {P : PP} {σ τ : xS} {k n i : Nat} {m S : Nat} {D : Nat → Nat → Int} {rd du ld : Nat → Int}
/-- the reference's state of a plan -/
def RP (σ : xS) (k : Nat) (P : PP) : Prop := WM σ (qS P + 1) (fun a c => qD P (plN a) (plN c)) ∧ WT σ (qD P) (qS P) ∧ GS σ (qS P) (qRd P) (qU P) (qL P) ∧ σ 184 46 = (qM P : Int) ∧ (qM P = 0 ∨ σ k 8 = (v1 (qV P) : Int)) ∧ σ k 8 = (qV P : Int) ∧ (σ 184 50 = 0 ∨ σ 184 50 = 1) ∧ ∀ v, v < qV P → (σ 184 50 = 1 ∧ v = 0 ∧ 100000 ≤ qC P v) ∨ (qC P v = σ k (166 + v) ∧ ¬ (σ 184 50 = 1 ∧ v = 0))
theorem RP_same (h : RP σ k P) (hk : 185 ≤ k ∧ k ≤ 187) (hs : ∀ a j, ((184 < a ∧ a < 207) ∨ (208 ≤ a ∧ a ≤ 210) ∨ (a = 184 ∧ (j = 46 ∨ j = 50))) → τ a j = σ a j) : RP τ k P := by
  obtain ⟨h1, h2, h3, h4, h5, h6, h7, h8⟩ := h
  refine ⟨fun a c ha hc => ?_, fun a c ha hc => ?_, fun s hs' => ?_, ?_, ?_, ?_, ?_, fun v hv => ?_⟩
  · rw [hs _ _ (by omega)]; exact h1 a c ha hc
  · rw [hs _ _ (by omega)]; exact h2 a c ha hc
  · rw [hs _ _ (by omega), hs _ _ (by omega), hs _ _ (by omega)]; exact h3 s hs'
  · rw [hs _ _ (by omega)]; exact h4
  · rw [hs _ _ (by omega)]; exact h5
  · rw [hs _ _ (by omega)]; exact h6
  · rw [hs _ _ (by omega)]; exact h7
  · rw [hs _ _ (by omega), hs _ _ (by omega)]; exact h8 v hv
theorem r_loadOf (hG : GS σ S rd du ld) (hS : S ≤ 7) (hm : m < 2 ^ S) (hn : 4000000 ≤ n) : m_X13_loadOf n m σ = some (pLo ld m) := by
  have h128 := pow_le7 hS hm
  unfold m_X13_loadOf
  refine loop_eq 7 (fun i => (sumTo i (fun s => if m.testBit s = true then ld s else 0), (i : Int))) rfl ?_ ?_ (by omega)
  · intro i hi rec
    dsimp only
    rw [sumTo, zI_of (n := (i : Int)) (by omega) (by omega), if_neg (by omega), xj_eq, has_of h128 hi]
    by_cases t : m.testBit i = true
    · have hiS := bit_lt hm t
      rw [if_pos t, if_pos t, if_neg (by omega), xck_of (by omega) (by omega), tn_cast, (hG i hiS).2.2]
      rfl
    · rw [if_neg t, if_neg t, if_pos rfl]
      rfl
  · intro rec
    dsimp only
    rw [zI_of (n := ((7 : Nat) : Int)) (by omega) (by omega), if_pos (by omega)]
    rfl
theorem r_leaves (hG : GS σ S rd du ld) (hS : S ≤ 7) (hm : m < 2 ^ S) (hrd : ∀ s, s < 7 → 0 ≤ rd s ∧ rd s ≤ 500000) {v : Nat} (hv : v < 3) (h211 : σ 211 v = (m : Int)) (hn : 4000000 ≤ n) : m_X13_leaves n v σ = some (dpF rd m) := by
  have h128 := pow_le7 hS hm
  unfold m_X13_leaves
  refine loop_eq 7 (fun i => (maxTo i (fun s => if m.testBit s = true then rd s else 0), (i : Int))) rfl ?_ ?_ (by omega)
  · intro i hi rec
    have hb : 0 ≤ maxTo i (fun s => if m.testBit s = true then rd s else 0) ∧ maxTo i (fun s => if m.testBit s = true then rd s else 0) ≤ 500000 := by
      refine ⟨maxTo_ge0 _, maxTo_le (by omega) _ (fun j hj => ?_)⟩
      have := hrd j (by omega)
      try dsimp only
      split <;> omega
    have hi2 := hrd i hi
    dsimp only
    rw [maxTo]
    generalize maxTo i (fun s => if m.testBit s = true then rd s else 0) = M at hb ⊢
    rw [zI_of (n := (i : Int)) (by omega) (by omega), if_neg (by omega), zI_of (n := (v : Int)) (by omega) (by omega), xck_of (by omega) (by omega), xj_eq, tn_cast, h211, has_of h128 hi]
    by_cases t : m.testBit i = true
    · have hiS := bit_lt hm t
      rw [if_pos t, if_pos t, if_neg (by omega), xck_of (by omega) (by omega), tn_cast, (hG i hiS).1, r_greater (by omega) (by omega) (by omega) (by omega)]
      rfl
    · rw [if_neg t, if_neg t, if_pos rfl, show max M 0 = M by omega]
      rfl
  · intro rec
    dsimp only
    rw [zI_of (n := ((7 : Nat) : Int)) (by omega) (by omega), if_pos (by omega)]
    rfl
theorem r_carries (hR : RP σ k P) (hP : PPV P) (hA : ∀ v, v < 3 → σ 211 v = (sgA (qM P) (qA P i) v : Int)) {v : Nat} (hv : v < qV P) (hn : 4000000 ≤ n) : m_X13_carries n k v σ = some (if pLo (qL P) (qG P i v) ≤ qC P v then 1 else 0) := by
  obtain ⟨h1, h2, h3, h4, h5, h6, h7, h8⟩ := hR
  have hV := hP.2.2.2.1
  have hlb := pLo_bd (m := qG P i v) (fun s hs => (hP.2.2.2.2.1 s hs).2.1)
  have hcb := hP.2.2.2.2.2 v hv
  have hlo := r_loadOf h3 hP.2.1 (qG_lt hP i v) hn
  have e211 : σ 211 v = (qG P i v : Int) := hA v (by omega)
  unfold m_X13_carries
  rw [xj_eq, xj_eq, xj_eq, zI_of (n := (v : Int)) (by omega) (by omega)]
  have hgen : ¬ (σ 184 50 = 1 ∧ v = 0) → qC P v = σ k (166 + v) → (xck (v : Int) 3 <| (m_X13_loadOf n (σ 211 (v : Int).toNat) σ).bind fun v10 => xck (zI (166 + (v : Int))) 289 <| if (zI (σ k (zI (166 + (v : Int))).toNat)) < (zI v10) then xbo 0 (some (0 : Int)) else xbo 1 (some 1)) = some (if pLo (qL P) (qG P i v) ≤ qC P v then 1 else 0) := fun _ hc => by
    rw [xck_of (by omega) (by omega), tn_cast, e211, hlo, bind_some', zI_of (n := 166 + (v : Int)) (by omega) (by omega), xck_of (by omega) (by omega), show (166 + (v : Int)).toNat = 166 + v by omega, ← hc, zI_of (n := qC P v) (by omega) (by omega), zI_of (n := pLo (qL P) (qG P i v)) (by omega) (by omega)]
    by_cases c : pLo (qL P) (qG P i v) ≤ qC P v
    · rw [if_neg (by omega), if_pos c, xbo_1]
    · rw [if_pos (by omega), if_neg c, xbo_0]
  rcases h8 v hv with ⟨z1, z2, z3⟩ | ⟨z1, z2⟩
  · subst z2
    simp only [z1]
    rw [zI_of (n := 1) (by omega) (by omega), if_neg (by omega), if_pos (show ((0 : Nat) : Int) = 0 from rfl), xbo_1, if_pos (by omega)]
  · rcases h7 with y | y
    · simp only [y]
      rw [zI_of (n := 0) (by omega) (by omega), if_pos rfl]
      exact hgen z2 z1
    · simp only [y]
      have hv0 : v ≠ 0 := fun h => z2 ⟨y, h⟩
      rw [zI_of (n := 1) (by omega) (by omega), if_neg (by omega), if_neg (by omega)]
      exact hgen z2 z1
/-- all can be carried and reached -/
def qOk (P : PP) (i : Nat) : Prop := ∀ v, v < qV P → pLo (qL P) (qG P i v) ≤ qC P v ∧ rsF (qD P) (qS P) (qG P i v) 7 < 1000000
/-- the arrivals of an assignment -/
def qAr (P : PP) (i s : Nat) (v : Nat) : Int := dpF (qRd P) (qG P i v) + arF (qD P) (qS P) (qG P i v) s
theorem r_drives (hR : RP σ k P) (hk : 185 ≤ k ∧ k ≤ 187) (hP : PPV P) (hA : ∀ v, v < 3 → σ 211 v = (sgA (qM P) (qA P i) v : Int)) (hn : 4000000 ≤ n) :
    OK (m_X13_drives n k σ) (fun x => ((qOk P i ∧ x.1 = qMi P i ∧ ∀ v, v < qV P → ∀ s, s < 7 → (qG P i v).testBit s = true → x.2 213 s = qAr P i s v) ∨ (¬ qOk P i ∧ x.1 = -1)) ∧ ∀ a j, a ≠ 207 → a ≠ 213 → ¬ (a = 184 ∧ j = 42) → x.2 a j = σ a j) := by
  have hV := hP.2.2.2.1
  unfold m_X13_drives
  refine loop_for (qV P) (fun v (t : Int × Int × xS) => t.1 = sumTo v (fun u => rsF (qD P) (qS P) (qG P i u) 7) ∧ t.2.1 = (v : Int) ∧ (∀ u, u < v → pLo (qL P) (qG P i u) ≤ qC P u ∧ rsF (qD P) (qS P) (qG P i u) 7 < 1000000) ∧ (∀ u, u < v → ∀ s, s < 7 → (qG P i u).testBit s = true → t.2.2 213 s = qAr P i s u) ∧ ∀ a j, a ≠ 207 → a ≠ 213 → ¬ (a = 184 ∧ j = 42) → t.2.2 a j = σ a j) ?_ ?_ (by omega) ⟨rfl, rfl, fun u hu => absurd hu (Nat.not_lt_zero _), fun u hu => absurd hu (Nat.not_lt_zero _), fun _ _ _ _ _ => rfl⟩
  · rintro v ⟨all, w, t⟩ hv ⟨g0, g1, g2, g3, g4⟩ rec hrec
    dsimp only at g0 g1 g2 g3 g4 hrec ⊢
    subst g0 g1
    have hRt : RP t k P := RP_same hR hk (fun a j h => g4 a j (by omega) (by omega) (by omega))
    have hAt : ∀ v, v < 3 → t 211 v = (sgA (qM P) (qA P i) v : Int) := fun u hu => by rw [g4 _ _ (by omega) (by omega) (by omega)]; exact hA u hu
    have e8 : t k (8 : Int).toNat = (qV P : Int) := hRt.2.2.2.2.2.1
    have hca := r_carries hRt hP hAt hv hn
    have e211 : t 211 v = (qG P i v : Int) := hAt v (by omega)
    have hg := qG_128 (P := P) i v
    have hgl := qG_lt hP i v
    have hrb := rsF_bd7 (p := 7) hP.2.1 hP.1 hgl (by omega)
    have el : t 206 (8 * qG P i v) = min 1000000 (rsF (qD P) (qS P) (qG P i v) 7) := hRt.2.1 (qG P i v) 0 hgl (by omega)
    have bad : ¬ (pLo (qL P) (qG P i v) ≤ qC P v ∧ rsF (qD P) (qS P) (qG P i v) 7 < 1000000) → OK (some ((-1 : Int), t)) (fun x => ((qOk P i ∧ x.1 = qMi P i ∧ ∀ v, v < qV P → ∀ s, s < 7 → (qG P i v).testBit s = true → x.2 213 s = qAr P i s v) ∨ (¬ qOk P i ∧ x.1 = -1)) ∧ ∀ a j, a ≠ 207 → a ≠ 213 → ¬ (a = 184 ∧ j = 42) → x.2 a j = σ a j) := fun h => OK_some ⟨Or.inr ⟨fun z => h (z v hv), rfl⟩, g4⟩
    rw [xck_of (by omega) (by omega)]
    simp only [e8]
    rw [zI_of (n := (qV P : Int)) (by omega) (by omega), zI_of (n := (v : Int)) (by omega) (by omega), if_neg (by omega), hca, bind_some', xj_eq]
    by_cases c1 : pLo (qL P) (qG P i v) ≤ qC P v
    · rw [if_pos c1, zI_of (n := 1) (by omega) (by omega), if_neg (by omega), xck_of (by omega) (by omega)]
      simp only [tn_cast, e211]
      rw [zI_of (n := 8 * (qG P i v : Int)) (by omega) (by omega), xck_of (by omega) (by omega), show (8 * (qG P i v : Int)).toNat = 8 * qG P i v by omega]
      simp only [el]
      rw [zI_of (n := min 1000000 (rsF (qD P) (qS P) (qG P i v) 7)) (by omega) (by omega)]
      by_cases c2 : rsF (qD P) (qS P) (qG P i v) 7 < 1000000
      · rw [if_pos (by omega), xck_of (by omega) (by omega), xck_of (by omega) (by omega), xlet_eq, xck_of (by omega) (by omega)]
        have emin : min 1000000 (rsF (qD P) (qS P) (qG P i v) 7) = rsF (qD P) (qS P) (qG P i v) 7 := by omega
        rw [emin]
        refine OK_bind (r_routes (k := k) hRt.1 hRt.2.1 hP.2.1 hP.1 hgl c2 hn) (fun t2 h => ?_)
        obtain ⟨hS2, hf2⟩ := h
        have hG2 : GS t2 (qS P) (qRd P) (qU P) (qL P) := fun s hs => by
          rw [hf2 _ _ (by omega) (by omega), hf2 _ _ (by omega) (by omega), hf2 _ _ (by omega) (by omega)]
          exact hRt.2.2.1 s hs
        have hdp := dpF_bd (m := qG P i v) (rd := qRd P) (fun s hs => (hP.2.2.2.2.1 s hs).2.2)
        rw [r_leaves hG2 hP.2.1 hgl (fun s hs => (hP.2.2.2.2.1 s hs).2.2) (show v < 3 by omega) (by rw [hf2 _ _ (by omega) (by omega)]; exact e211) hn, bind_some']
        have hsum : sumTo v (fun u => rsF (qD P) (qS P) (qG P i u) 7) + rsF (qD P) (qS P) (qG P i v) 7 = sumTo (v + 1) (fun u => rsF (qD P) (qS P) (qG P i u) 7) := rfl
        rw [hsum]
        have hbc := bcN_le (pow_le7 hP.2.1 hgl)
        refine loop_for (bcN (qG P i v)) (fun l (y : Int × Int × Int × xS) => y.1 = dpF (qRd P) (qG P i v) + rsF (qD P) (qS P) (qG P i v) 7 - rsF (qD P) (qS P) (rtN (qD P) (qS P) (qG P i v) l).2 (rtN (qD P) (qS P) (qG P i v) l).1 ∧ (∃ a : Nat, y.2.1 = (a : Int) ∧ a < qS P + 1 ∧ plN a = (rtN (qD P) (qS P) (qG P i v) l).1) ∧ y.2.2.1 = (l : Int) ∧ (∀ s, s < 7 → psB (qD P) (qS P) (qG P i v) l s = true → y.2.2.2 213 s = qAr P i s v) ∧ (∀ a j, ¬ (a = 213 ∧ j < 7 ∧ (qG P i v).testBit j = true) → y.2.2.2 a j = t2 a j)) ?_ ?_ (by omega) ⟨by show dpF (qRd P) (qG P i v) = dpF (qRd P) (qG P i v) + rsF (qD P) (qS P) (qG P i v) 7 - rsF (qD P) (qS P) (qG P i v) 7; omega, ⟨0, rfl, by omega, rfl⟩, rfl, fun s hs h => by rw [psB_0] at h; exact absurd h (by decide), fun _ _ _ => rfl⟩
        · rintro l ⟨minute, from', kk, y⟩ hl ⟨h1, ⟨a, h2, h3, h3'⟩, h4, h5, h6⟩ rec2 hrec2
          dsimp only at h1 h2 h4 h5 h6 hrec2 ⊢
          subst h2 h4
          obtain ⟨s1, s2, s3, s4, s5⟩ := rtN_spec hP.2.1 hP.1 hgl l (by omega)
          obtain ⟨p1, p2, p3, p4, p5, p6, p7, p8, p9, p10, p11⟩ := psB_next hP.2.1 hP.1 hgl hl
          have e42 : y 184 42 = (bcN (qG P i v) : Int) := by rw [h6 _ _ (by omega)]; exact hS2.1
          have e207 : y 207 l = ((rtN (qD P) (qS P) (qG P i v) (l + 1)).1 : Int) := by rw [h6 _ _ (by omega)]; exact hS2.2 l hl
          have e205 : y 205 (8 * a + ((rtN (qD P) (qS P) (qG P i v) (l + 1)).1 + 1)) = qD P (rtN (qD P) (qS P) (qG P i v) l).1 (rtN (qD P) (qS P) (qG P i v) (l + 1)).1 := by
            rw [h6 _ _ (by omega), hf2 _ _ (by omega) (by omega), hRt.1 a _ h3 (by omega)]
            show qD P (plN a) (plN ((rtN (qD P) (qS P) (qG P i v) (l + 1)).1 + 1)) = _
            rw [plN_s, h3']
          have hv1 : minute + qD P (rtN (qD P) (qS P) (qG P i v) l).1 (rtN (qD P) (qS P) (qG P i v) (l + 1)).1 = qAr P i (rtN (qD P) (qS P) (qG P i v) (l + 1)).1 v := by
            unfold qAr
            omega
          have hv2 : qAr P i (rtN (qD P) (qS P) (qG P i v) (l + 1)).1 v = dpF (qRd P) (qG P i v) + rsF (qD P) (qS P) (qG P i v) 7 - rsF (qD P) (qS P) (rtN (qD P) (qS P) (qG P i v) (l + 1)).2 (rtN (qD P) (qS P) (qG P i v) (l + 1)).1 := by
            unfold qAr
            omega
          have hbs := plN_s (rtN (qD P) (qS P) (qG P i v) (l + 1)).1
          have hS7 := hP.2.1
          generalize hX : (rtN (qD P) (qS P) (qG P i v) (l + 1)).1 = X at p2 p5 p6 p7 p8 e207 e205 hv1 hv2 hbs hrec2
          have f207 : ∀ u z, (xput y 213 u z) 207 l = (X : Int) := fun u z => by rw [xput_ne (by omega)]; exact e207
          simp only [e42]
          rw [zI_of (n := (bcN (qG P i v) : Int)) (by omega) (by omega), zI_of (n := (l : Int)) (by omega) (by omega), if_neg (by omega), xck_of (by omega) (by omega)]
          simp only [tn_cast, e207, f207]
          rw [zI_of (n := 8 * (a : Int) + (X : Int) + 1) (by omega) (by omega), xck_of (by omega) (by omega), ixs, e205, hv1, xlet_eq, zI_of (n := (X : Int)) (by omega) (by omega), xck_of (by omega) (by omega), xck_of (by omega) (by omega), xlet_eq, xck_of (by omega) (by omega), xlet_eq, xlet_eq, tn_cast, f207]
          refine hrec2 _ ⟨hv2, ⟨X + 1, by show (X : Int) + 1 = ((X + 1 : Nat) : Int); omega, by omega, ?_⟩, by (try dsimp only); omega, fun s hs hps => ?_, fun a' j c => ?_⟩
          · exact hbs
          · dsimp only
            by_cases d : s = X
            · rw [d, xput_eq]
            · rw [xput_ne (by omega)]
              exact h5 s hs (by rw [← p8 s hs d]; exact hps)
          · dsimp only
            rw [xput_ne (fun z => c ⟨z.1, by omega, by rw [z.2]; exact p5⟩)]
            exact h6 a' j c
        · rintro ⟨minute, from', kk, y⟩ ⟨h1, h2, h4, h5, h6⟩ rec2
          dsimp only at h1 h2 h4 h5 h6 ⊢
          subst h4
          have e42 : y 184 42 = (bcN (qG P i v) : Int) := by rw [h6 _ _ (by omega)]; exact hS2.1
          simp only [e42]
          rw [if_pos (Int.le_refl _), xlet_eq]
          refine hrec _ ⟨rfl, by (try dsimp only); omega, fun u hu => ?_, fun u hu s hs t1 => ?_, fun a j c1 c2 c3 => ?_⟩
          · by_cases d : u = v
            · rw [d]; exact ⟨c1, c2⟩
            · exact g2 u (by omega)
          · dsimp only
            by_cases d : u = v
            · subst d
              exact h5 s hs (by rw [psB_end hP.2.1 hP.1 hgl]; exact t1)
            · have hne : ¬ ((213 : Nat) = 213 ∧ s < 7 ∧ (qG P i v).testBit s = true) := fun z => by
                have z2 := z.2.2
                unfold qG at t1 z2
                rw [sgA_bit hs, Bool.and_eq_true, decide_eq_true_eq] at t1 z2
                exact d (t1.2.symm.trans z2.2)
              rw [h6 _ _ hne, hf2 _ _ (by omega) (by omega)]
              exact g3 u (by omega) s hs t1
          · dsimp only
            rw [h6 _ _ (fun z => c2 z.1), hf2 _ _ c1 c3]
            exact g4 a j c1 c2 c3
      · rw [if_neg (by omega)]
        exact bad (fun z => c2 z.2)
    · rw [if_neg c1, zI_of (n := 0) (by omega) (by omega), if_pos rfl]
      exact bad (fun z => c1 z.1)
  · rintro ⟨all, w, t⟩ ⟨g0, g1, g2, g3, g4⟩ rec
    dsimp only at g0 g1 g2 g3 g4 ⊢
    subst g0 g1
    have e8 : t k (8 : Int).toNat = (qV P : Int) := by rw [g4 _ _ (by omega) (by omega) (by omega)]; exact hR.2.2.2.2.2.1
    rw [xck_of (by omega) (by omega)]
    simp only [e8]
    rw [if_pos (Int.le_refl _)]
    exact OK_some ⟨Or.inl ⟨g2, rfl, g3⟩, g4⟩
end PLC
