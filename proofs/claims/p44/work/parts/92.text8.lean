/-! the class's parser: streets, orders -/
section TX8
variable {T : Nat → Int} {L p : Nat} {σ τ υ : xS} {n b : Nat} {s : RS0} {f : Int × Nat} {S : PSt} {δ δ' : Nat → Int}
theorem zz_0 : zz 0 = 0 := by decide
theorem pl_val {nm : Nat → Nat × Nat} {cnt : Nat} {o : Int} {q : Int × Nat} (hc : cnt ≤ 7) (h : bnd s (rPl T L nm cnt o) = .inr q) : q.1 = 7 ∨ (0 ≤ q.1 ∧ q.1 < cnt) := by
  obtain ⟨q0, h1, h2⟩ := bnd_inr h
  unfold rPl at h2
  split at h2
  · split at h2
    · cases h2
    · cases h2
      exact Or.inl rfl
  · split at h2
    · split at h2
      · split at h2
        · cases h2
        · cases h2
          right
          omega
      · cases h2
    · cases h2
theorem plC_R {v : Int} (h : v = 7 ∨ (0 ≤ v ∧ v < 7)) : plC (plR v) = v := by
  unfold plC plR
  rcases h with h | h
  · rw [h]
    rfl
  · rw [if_neg (by omega), if_neg (by omega)]
    omega
theorem c_readStreet (h : PSC σ b T L S) (hV : PSV T L S) (hb : 6 ≤ b) (hn : 4000000 ≤ n) : OK (m_X7_readStreet n b σ) (fun τ => PRC τ b T L (sStreet T L S) ∧ pfB b σ τ) := by
  obtain ⟨hG, hB, hN1, hN2, hg⟩ := h
  obtain ⟨hV1, hV0, hNV1, hNV2, hgv, hz3, hz7, -⟩ := hV
  have v4 := hV1.2.2.2.2.1
  have v5 := hV1.2.2.2.2.2.1
  have v6 := hV1.2.2.2.2.2.2.1
  have v7 := hV1.2.2.2.2.2.2.2.1
  have v8 := hV1.2.2.2.2.2.2.2.2.1
  have v9 := hV1.2.2.2.2.2.2.2.2.2.1
  obtain ⟨b0, b1, b2, b3, b4, b5, b6, b7, b8, b9, bd, bo, bs, bv, br⟩ := hB
  obtain ⟨c, hc⟩ : ∃ c : Nat, S.2.1 7 = (c : Int) := ⟨(S.2.1 7).toNat, by omega⟩
  have ec : (S.2.1 7).toNat = c := by omega
  obtain ⟨m, hm⟩ : ∃ m : Nat, S.2.1 6 = (m : Int) := ⟨(S.2.1 6).toNat, by omega⟩
  have em : (S.2.1 6).toNat = m := by omega
  rw [em] at hN2 hNV2
  unfold m_X7_readStreet
  rw [xlet_eq, b7, hc]
  refine OK_bind (c_beginOneOf (most := 20) (cnt := c) hG (by omega) hn) (fun s1 h1 => ?_)
  have e1 : s1 b 8 = (m : Int) := by rw [h1.2 _ _ (by omega) (by omega), b6, hm]
  refine OK_xbS (c_readPlace (b := b) (o := -1) h1.1 (CN_same hN2 (fun j _ => h1.2 _ _ (by omega) (by omega))) hNV2 (by omega) e1 (by omega) (by omega) hn) (fun u1 s3 h3 => ?_)
  obtain ⟨⟨r1, w1⟩, r3, r4⟩ := h3
  dsimp only at r1 w1 r3 r4
  have hp3 := pfC_trans h1.2 r3
  have e3 : s3 b 8 = (m : Int) := by rw [hp3 _ _ (by omega) (by omega), b6, hm]
  refine OK_xbS (c_readPlace (b := b) (o := u1) r1 (CN_same hN2 (fun j _ => hp3 _ _ (by omega) (by omega))) hNV2 (by omega) e3 (by omega) (by omega) hn) (fun u2 s5 h5 => ?_)
  obtain ⟨⟨x1, x2⟩, x3, x4⟩ := h5
  dsimp only at x1 x2 x3 x4
  have hp5 := pfC_trans hp3 x3
  refine OK_xbS (c_readNumber (lo := 1) (hi := 120) x1 (by omega) hn) (fun u3 s7 h7 => ?_)
  obtain ⟨⟨y1, y2⟩, y3⟩ := h7
  dsimp only at y1 y2 y3
  have hp7 := pfC_trans hp5 y3
  have et1 : t1S T L S = bnd (nxS (rBeg T L 20 c S.1)) (rPl T L S.2.2.2.1 m (-1)) := by unfold t1S; rw [ec, em]
  have et2 : t2S T L S = bnd (nxS (t1S T L S)) (rPl T L S.2.2.2.1 m u1) := by
    unfold t2S
    rw [em]
    cases ht : t1S T L S with
    | inl g => rfl
    | inr q =>
      rw [w1 q (by rw [← et1]; exact ht)]
      rfl
  simp only [← et1] at y1 y2 x2 w1
  simp only [← et2] at y1 y2 x2
  unfold sStreet
  rw [ec, xj_eq]
  cases hr : bnd (nxS (t2S T L S)) (rNum T L 1 120) with
  | inl g =>
    rw [hr] at y1
    have gx : CX s7 T L g := y1
    rw [c_failX gx, if_neg (by omega)]
    exact OK_some ⟨gx, fun k j c1 c2 => hp7 k j (by omega) (by omega)⟩
  | inr q =>
    rw [hr] at y1
    have gg : CG s7 T L q.2 := y1
    have hv3 := y2 q hr
    obtain ⟨p2, hp21, -⟩ := bnd_inr hr
    obtain ⟨a2, hq2⟩ := nx_inr hp21
    have hu2 : u2 = a2 := x2 _ hq2
    have hq2' := hq2
    rw [et2] at hq2'
    obtain ⟨p1, hp11, -⟩ := bnd_inr hq2'
    obtain ⟨a1, hq1⟩ := nx_inr hp11
    have hu1 : u1 = a1 := w1 _ hq1
    have hq1' := hq1
    rw [et1] at hq1'
    have hlt := beg_r hq1'
    have b1' := pl_val (q := (a1, p1)) (by omega) hq1'
    have b2' := pl_val (q := (a2, p2)) (by omega) hq2'
    dsimp only at b1' b2'
    have ea1 : vaS (t1S T L S) = a1 := by rw [hq1]; rfl
    have ea2 : vaS (t2S T L S) = a2 := by rw [hq2]; rfl
    have e74 : s7 (b + 39) 4 = (c : Int) := by rw [hp7 _ _ (by omega) (by omega), b7, hc]
    rw [c_failG gg, if_pos rfl, zI_of (n := (c : Int)) (by omega) (by omega), xck_of (by omega) (by omega), xlet_eq, xck_of (by omega) (by omega), xlet_eq, xck_of (by omega) (by omega), xlet_eq, xck_of (by omega) (by omega), xlet_eq, xlet_eq, tn_cast, zz_0, hv3, hu1, hu2]
    have hfr : ∀ k j, ¬ (k = 2 ∧ (j = 7 ∨ j = 8)) → ¬ (k = 3 ∧ (j = 2 ∨ j = 3 ∨ j = 4)) → ¬ (b + 40 ≤ k ∧ k ≤ b + 43 ∧ j = c) → ¬ (k = b + 39 ∧ j = 4) → (xput (xput (xput (xput (xput s7 (b + 39 + 1) c a1) (b + 39 + 2) c a2) (b + 39 + 3) c q.1) (b + 39 + 4) c 0) (b + 39) 4 ((xput (xput (xput (xput s7 (b + 39 + 1) c a1) (b + 39 + 2) c a2) (b + 39 + 3) c q.1) (b + 39 + 4) c 0) (b + 39) 4 + 1)) k j = σ k j := fun k j c1 c2 c3 c4 => by
      rw [xput_ne c4, xput_ne (by omega), xput_ne (by omega), xput_ne (by omega), xput_ne (by omega)]
      exact hp7 k j c1 c2
    have m1 : (xput (xput (xput (xput (xput s7 (b + 39 + 1) c a1) (b + 39 + 2) c a2) (b + 39 + 3) c q.1) (b + 39 + 4) c 0) (b + 39) 4 ((xput (xput (xput (xput s7 (b + 39 + 1) c a1) (b + 39 + 2) c a2) (b + 39 + 3) c q.1) (b + 39 + 4) c 0) (b + 39) 4 + 1)) (b + 39 + 1) c = a1 := by
      rw [xput_ne (by omega), xput_ne (by omega), xput_ne (by omega), xput_ne (by omega), xput_eq]
    have m2 : (xput (xput (xput (xput (xput s7 (b + 39 + 1) c a1) (b + 39 + 2) c a2) (b + 39 + 3) c q.1) (b + 39 + 4) c 0) (b + 39) 4 ((xput (xput (xput (xput s7 (b + 39 + 1) c a1) (b + 39 + 2) c a2) (b + 39 + 3) c q.1) (b + 39 + 4) c 0) (b + 39) 4 + 1)) (b + 39 + 2) c = a2 := by
      rw [xput_ne (by omega), xput_ne (by omega), xput_ne (by omega), xput_eq]
    have m3 : (xput (xput (xput (xput (xput s7 (b + 39 + 1) c a1) (b + 39 + 2) c a2) (b + 39 + 3) c q.1) (b + 39 + 4) c 0) (b + 39) 4 ((xput (xput (xput (xput s7 (b + 39 + 1) c a1) (b + 39 + 2) c a2) (b + 39 + 3) c q.1) (b + 39 + 4) c 0) (b + 39) 4 + 1)) (b + 39 + 3) c = q.1 := by
      rw [xput_ne (by omega), xput_ne (by omega), xput_eq]
    have m4 : (xput (xput (xput (xput (xput s7 (b + 39 + 1) c a1) (b + 39 + 2) c a2) (b + 39 + 3) c q.1) (b + 39 + 4) c 0) (b + 39) 4 ((xput (xput (xput (xput s7 (b + 39 + 1) c a1) (b + 39 + 2) c a2) (b + 39 + 3) c q.1) (b + 39 + 4) c 0) (b + 39) 4 + 1)) (b + 39 + 4) c = 0 := by
      rw [xput_ne (by omega), xput_eq]
    have m5 : (xput (xput (xput (xput (xput s7 (b + 39 + 1) c a1) (b + 39 + 2) c a2) (b + 39 + 3) c q.1) (b + 39 + 4) c 0) (b + 39) 4 ((xput (xput (xput (xput s7 (b + 39 + 1) c a1) (b + 39 + 2) c a2) (b + 39 + 3) c q.1) (b + 39 + 4) c 0) (b + 39) 4 + 1)) (b + 39) 4 = (c : Int) + 1 := by
      rw [xput_eq, xput_ne (by omega), xput_ne (by omega), xput_ne (by omega), xput_ne (by omega), e74]
    have hCS : CG (xput (xput (xput (xput (xput s7 (b + 39 + 1) c a1) (b + 39 + 2) c a2) (b + 39 + 3) c q.1) (b + 39 + 4) c 0) (b + 39) 4 ((xput (xput (xput (xput s7 (b + 39 + 1) c a1) (b + 39 + 2) c a2) (b + 39 + 3) c q.1) (b + 39 + 4) c 0) (b + 39) 4 + 1)) T L q.2 := CS_same (s := .inr q.2) gg (fun k j hkj => by rw [xput_ne (by omega), xput_ne (by omega), xput_ne (by omega), xput_ne (by omega), xput_ne (by omega)])
    generalize xput (xput (xput (xput (xput s7 (b + 39 + 1) c a1) (b + 39 + 2) c a2) (b + 39 + 3) c q.1) (b + 39 + 4) c 0) (b + 39) 4 ((xput (xput (xput (xput s7 (b + 39 + 1) c a1) (b + 39 + 2) c a2) (b + 39 + 3) c q.1) (b + 39 + 4) c 0) (b + 39) 4 + 1) = τ at hfr m1 m2 m3 m4 m5 hCS ⊢
    refine OK_some ⟨?_, fun k j c1 c2 => hfr k j (by omega) (by omega) (by omega) (by omega)⟩
    rw [ea1, ea2]
    show PSC5 τ b T L q.2 (stI (stI (stI (stI S.2.1 (86 + 4 * c) (plR a1)) (86 + 4 * c + 1) (plR a2)) (86 + 4 * c + 2) q.1) 7 (S.2.1 7 + 1)) S.2.2.1 S.2.2.2.1 S.2.2.2.2
    have hd : ∀ i, i ≠ 7 → ¬ (86 + 4 * c ≤ i ∧ i ≤ 86 + 4 * c + 2) → stI (stI (stI (stI S.2.1 (86 + 4 * c) (plR a1)) (86 + 4 * c + 1) (plR a2)) (86 + 4 * c + 2) q.1) 7 (S.2.1 7 + 1) i = S.2.1 i := fun i k1 k2 => by
      rw [stI_ne k1, stI_ne (by omega), stI_ne (by omega), stI_ne (by omega)]
    have hd7 : stI (stI (stI (stI S.2.1 (86 + 4 * c) (plR a1)) (86 + 4 * c + 1) (plR a2)) (86 + 4 * c + 2) q.1) 7 (S.2.1 7 + 1) 7 = S.2.1 7 + 1 := stI_eq
    have k0 : stI (stI (stI (stI S.2.1 (86 + 4 * c) (plR a1)) (86 + 4 * c + 1) (plR a2)) (86 + 4 * c + 2) q.1) 7 (S.2.1 7 + 1) (86 + 4 * c) = plR a1 := by rw [stI_ne (by omega), stI_ne (by omega), stI_ne (by omega), stI_eq]
    have k1 : stI (stI (stI (stI S.2.1 (86 + 4 * c) (plR a1)) (86 + 4 * c + 1) (plR a2)) (86 + 4 * c + 2) q.1) 7 (S.2.1 7 + 1) (86 + 4 * c + 1) = plR a2 := by rw [stI_ne (by omega), stI_ne (by omega), stI_eq]
    have k2 : stI (stI (stI (stI S.2.1 (86 + 4 * c) (plR a1)) (86 + 4 * c + 1) (plR a2)) (86 + 4 * c + 2) q.1) 7 (S.2.1 7 + 1) (86 + 4 * c + 2) = q.1 := by rw [stI_ne (by omega), stI_eq]
    generalize stI (stI (stI (stI S.2.1 (86 + 4 * c) (plR a1)) (86 + 4 * c + 1) (plR a2)) (86 + 4 * c + 2) q.1) 7 (S.2.1 7 + 1) = D at hd hd7 k0 k1 k2 ⊢
    refine ⟨hCS, ⟨?_, ?_, ?_, ?_, ?_, ?_, ?_, ?_, ?_, ?_, ?_, ?_, ?_, ?_, ?_⟩, ?_, ?_, fun i hi => ?_⟩
    · rw [hfr _ _ (by omega) (by omega) (by omega) (by omega), hd _ (by omega) (by omega)]; exact b0
    · rw [hfr _ _ (by omega) (by omega) (by omega) (by omega), hd _ (by omega) (by omega)]; exact b1
    · rw [hfr _ _ (by omega) (by omega) (by omega) (by omega), hd _ (by omega) (by omega)]; exact b2
    · rw [hfr _ _ (by omega) (by omega) (by omega) (by omega), hd _ (by omega) (by omega)]; exact b3
    · rw [hfr _ _ (by omega) (by omega) (by omega) (by omega), hd _ (by omega) (by omega)]; exact b4
    · rw [hfr _ _ (by omega) (by omega) (by omega) (by omega), hd _ (by omega) (by omega)]; exact b5
    · rw [hfr _ _ (by omega) (by omega) (by omega) (by omega), hd _ (by omega) (by omega)]; exact b6
    · rw [m5, hd7, hc]
    · rw [hfr _ _ (by omega) (by omega) (by omega) (by omega), hd _ (by omega) (by omega)]; exact b8
    · rw [hfr _ _ (by omega) (by omega) (by omega) (by omega), hd _ (by omega) (by omega)]; exact b9
    · exact keepD bd v4.2 (hd _ (by omega) (by omega)) (fun i j c1 c2 => hfr _ _ (by omega) (by omega) (by omega) (by omega)) (fun i c1 c2 => hd i (by omega) (by omega))
    · exact keepO bo v5.2 (hd _ (by omega) (by omega)) (fun i j c1 c2 => hfr _ _ (by omega) (by omega) (by omega) (by omega)) (fun i c1 c2 => hd i (by omega) (by omega))
    · intro x hx
      rw [hd7, hc] at hx
      by_cases e : x = c
      · subst e
        have z7 := hz7 x (by omega)
        show τ (b + 39 + 1) x = plC (D (86 + 4 * x)) ∧ τ (b + 39 + 2) x = plC (D (86 + 4 * x + 1)) ∧ τ (b + 39 + 3) x = D (86 + 4 * x + 2) ∧ τ (b + 39 + 4) x = D (86 + 4 * x + 3)
        rw [k0, k1, k2, hd (86 + 4 * x + 3) (by omega) (by omega), m1, m2, m3, m4, plC_R (by omega), plC_R (by omega)]
        exact ⟨rfl, rfl, rfl, z7.symm⟩
      · have z := bs x (by omega)
        have q0 : ∀ w, w < 4 → stF D x w = stF S.2.1 x w := fun w hw => hd _ (by omega) (by omega)
        rw [hfr _ _ (by omega) (by omega) (by omega) (by omega), hfr _ _ (by omega) (by omega) (by omega) (by omega), hfr _ _ (by omega) (by omega) (by omega) (by omega), hfr _ _ (by omega) (by omega) (by omega) (by omega), q0 0 (by omega), q0 1 (by omega), q0 2 (by omega), q0 3 (by omega)]
        exact z
    · exact keepV bv v8.2 (hd _ (by omega) (by omega)) (fun j => hfr _ _ (by omega) (by omega) (by omega) (by omega)) (fun i c1 c2 => hd i (by omega) (by omega))
    · exact keepR br v9.2 (hd _ (by omega) (by omega)) (fun i j c1 c2 => hfr _ _ (by omega) (by omega) (by omega) (by omega)) (fun i c1 c2 => hd i (by omega) (by omega))
    · rw [hd 4 (by omega) (by omega)]
      exact CN_same hN1 (fun j _ => hfr _ _ (by omega) (by omega) (by omega) (by omega))
    · rw [hd 6 (by omega) (by omega), em]
      exact CN_same hN2 (fun j _ => hfr _ _ (by omega) (by omega) (by omega) (by omega))
    · rw [hfr _ _ (by omega) (by omega) (by omega) (by omega)]
      exact hg i hi
end TX8
