/-! changes: entries of the history; the class takes one back -/
section CHG3
variable {σ τ s x y : xS} {n m b : Nat} {β γ δ : Nat → Int}
/-- an entry of the history: it leads from γ back to δ -/
def HE (K I B : Int) (γ δ : Nat → Int) : Prop := V δ ∧ V0 δ ∧
  ((K = 0 ∧ I = 0 ∧ B = δ 0 ∧ ∀ i, i < 289 → i ≠ 0 → δ i = γ i) ∨
   (∃ o : Nat, o < 4 ∧ (o : Int) < γ 5 ∧ K = 1 ∧ I = (o : Int) ∧ B = ovF δ o 3 ∧ ∀ i, i < 289 → i ≠ 70 + 4 * o + 3 → δ i = γ i) ∨
   (∃ o : Nat, o < 20 ∧ (o : Int) < γ 7 ∧ K = 2 ∧ I = (o : Int) ∧ B = stF δ o 3 ∧ ∀ i, i < 289 → i ≠ 86 + 4 * o + 3 → δ i = γ i) ∨
   (∃ o : Nat, o ≤ 24 ∧ (o : Int) ≤ γ 9 ∧ δ 9 = (o : Int) ∧ K = 3 ∧ I = (o : Int) ∧ B = 0 ∧ ∀ i, i < 169 + 5 * o → i ≠ 9 → δ i = γ i) ∨
   (∃ o : Nat, o < 24 ∧ (o : Int) < γ 9 ∧ K = 4 ∧ I = (o : Int) ∧ B = 0 ∧ oF δ o 4 = 0 ∧ ∀ i, i < 289 → i ≠ 169 + 5 * o + 4 → δ i = γ i) ∨
   (∃ o : Nat, o < 24 ∧ (o : Int) < γ 9 ∧ K = 5 ∧ I = (o : Int) ∧ B = oF δ o 3 ∧ ∀ i, i < 289 → i ≠ 169 + 5 * o + 3 → δ i = γ i))
theorem RD_congr {r : Nat} (h : RD σ r γ) (hV : V γ) (hd : ∀ i, i < 169 → i = 6 ∨ i = 7 ∨ (86 ≤ i ∧ i < 166) → δ i = γ i) : RD σ r δ := by
  have e : dsF δ = dsF γ := ds_congr (fun i hi => hd i (by omega) (by omega)) hV
  unfold RD
  rw [e, hd 6 (by omega) (by omega)]
  exact h
theorem zz_1 : zz 1 = 1 := by decide
theorem c_markStreet {t : Nat} {v : Int} (ht : t < 20) (hB : Bk σ b γ 0) (hV : V γ) (hVd : V δ) (hd : ∀ i, i < 289 → i ≠ 86 + 4 * t + 3 → δ i = γ i) (hv : v = stF δ t 3) (hv1 : v = 0 ∨ v = 1) (hn : 4000000 ≤ n) : OK (m_X1_markStreet n b (t : Int) v σ) (fun τ => Bk τ b δ 0 ∧ RD τ (b + 39) δ ∧ ∀ k j, ¬ (b ≤ k ∧ k < b + 54) → τ k j = σ k j) := by
  have ez : zz v = v := by
    rcases hv1 with rfl | rfl
    · exact zz_0
    · exact zz_1
  have e8 := hB.2.2.2.2.2.2.1
  unfold m_X1_markStreet
  rw [zI_of (n := (t : Int)) (by omega) (by omega), xck_of (by omega) (by omega), xlet_eq, tn_cast, ez]
  have hf : ∀ k j, ¬ (k = b + 39 + 4 ∧ j = t) → (xput σ (b + 39 + 4) t v) k j = σ k j := fun k j h => xput_ne h
  have h0 : (xput σ (b + 39 + 4) t v) (b + 39 + 4) t = v := xput_eq
  generalize xput σ (b + 39 + 4) t v = s1 at hf h0 ⊢
  have hB1 : Bk s1 b δ 0 := Bk_street ht hB hV hd (fun k j c1 c2 c3 => hf k j c3) (by rw [h0]; exact hv)
  have e6 : s1 b 8 = δ 6 := hB1.2.2.2.2.2.2.1
  rw [e6]
  refine OK_bind (c_explore hVd (SR_of hB1 hVd) (by omega) hn) (fun s2 h => ?_)
  obtain ⟨x1, x2⟩ := h
  exact OK_some ⟨Bk_low hB1 hVd (fun k j h1 h2 => x2 k j (by omega)), x1, fun k j h => by rw [x2 k j (by omega), hf k j (by omega)]⟩
theorem c_takeBack {K I B : Int} (h1 : 1 ≤ m) (hm : m ≤ 12) (h3 : σ 114 3 = (m : Int)) (e5 : σ 115 (m - 1) = K) (e6 : σ 116 (m - 1) = I) (e7 : σ 117 (m - 1) = B) (hE : HE K I B γ δ) (hV : V γ) (hBk : Bk σ b γ 0) (hR : RD σ (b + 39) γ) (hb : b = 6 ∨ b = 60) (hn : 4000000 ≤ n) :
    OK (m_X3_takeBack n b σ) (fun τ => τ 114 3 = ((m - 1 : Nat) : Int) ∧ Bk τ b δ 0 ∧ RD τ (b + 39) δ ∧ ∀ k j, ¬ (b ≤ k ∧ k < b + 54) → ¬ (k = 114 ∧ j = 3) → τ k j = σ k j) := by
  unfold m_X3_takeBack
  rw [h3, zI_of (n := (m : Int)) (by omega) (by omega), if_neg (by omega), xlet_eq]
  have k3 : (xput σ 114 3 ((m : Int) - 1)) 114 3 = ((m - 1 : Nat) : Int) := by rw [xput_eq]; omega
  have k0 : ∀ k j, ¬ (k = 114 ∧ j = 3) → (xput σ 114 3 ((m : Int) - 1)) k j = σ k j := fun k j h => xput_ne h
  generalize xput σ 114 3 ((m : Int) - 1) = s2 at k3 k0 ⊢
  have hB2 : Bk s2 b γ 0 := Bk_low hBk hV (fun k j c1 c2 => k0 k j (by omega))
  have hR2 : RD s2 (b + 39) γ := RD_same hR (fun a j c1 c2 => k0 a j (by omega))
  rw [← k0 115 (m - 1) (by omega)] at e5
  rw [← k0 116 (m - 1) (by omega)] at e6
  rw [← k0 117 (m - 1) (by omega)] at e7
  generalize hM : m - 1 = M at k3 e5 e6 e7 ⊢
  have hM12 : M < 12 := by omega
  have z : zI (M : Int) = (M : Int) := zI_of (by omega) (by omega)
  simp only [k3, z, tn_cast, e5, e6, e7]
  rw [xck_of (by omega) (by omega), xlet_eq, xck_of (by omega) (by omega), xj_eq]
  dsimp only
  obtain ⟨hVd, h0d, hE⟩ := hE
  rcases hE with ⟨a1, a2, a3, a4⟩ | ⟨o, a0, a1, a2, a3, a4, a5⟩ | ⟨o, a0, a1, a2, a3, a4, a5⟩ | ⟨o, a0, a1, a2, a3, a4, a5, a6⟩ | ⟨o, a0, a1, a2, a3, a4, a5, a6⟩ | ⟨o, a0, a1, a2, a3, a4, a5⟩
  · subst a1
    rw [zI_of (n := 0) (by omega) (by omega), if_pos rfl, xck_of (by omega) (by omega), xlet_eq]
    refine OK_some ⟨by rw [xput_ne (by omega)]; exact k3, Bk_room hB2 hV a4 (fun k j c1 c2 c3 => xput_ne c3) (by rw [xput_eq]; exact a3), ?_, fun k j c1 c2 => by rw [xput_ne (by omega)]; exact k0 k j c2⟩
    exact RD_same (RD_congr hR2 hV (fun i hi h => a4 i (by omega) (by omega))) (fun a j c1 c2 => xput_ne (by omega))
  · subst a2
    have hv3 : ovF δ o 3 = 0 ∨ ovF δ o 3 = 1 := (hVd.2.2.2.2.2.2.2.2.2.2.2.1 o (by rw [a5 5 (by omega) (by omega)]; exact a1)).2.2.2
    have ev : (if zI B = 1 then (1 : Int) else 0) = ovF δ o 3 := by
      rw [a4]
      rcases hv3 with e | e
      · rw [e]; rfl
      · rw [e]; rfl
    rw [zI_of (n := 1) (by omega) (by omega), if_neg (by omega), if_pos rfl, a3, zI_of (n := (o : Int)) (by omega) (by omega), xck_of (by omega) (by omega), xck_of (by omega) (by omega), xlet_eq, ev, xbo_of hv3, xlet_eq, tn_cast]
    refine OK_some ⟨by rw [xput_ne (by omega)]; exact k3, Bk_oven a0 hB2 hV a5 (fun k j c1 c2 c3 => xput_ne c3) xput_eq, ?_, fun k j c1 c2 => by rw [xput_ne (by omega)]; exact k0 k j c2⟩
    exact RD_same (RD_congr hR2 hV (fun i hi h => a5 i (by omega) (by omega))) (fun a j c1 c2 => xput_ne (by omega))
  · subst a2
    have hv3 : stF δ o 3 = 0 ∨ stF δ o 3 = 1 := (hVd.2.2.2.2.2.2.2.2.2.2.2.2.1 o (by rw [a5 7 (by omega) (by omega)]; exact a1)).2.2.2.2
    have ev : (if zI B = 1 then (1 : Int) else 0) = stF δ o 3 := by
      rw [a4]
      rcases hv3 with e | e
      · rw [e]; rfl
      · rw [e]; rfl
    rw [zI_of (n := 2) (by omega) (by omega), if_neg (by omega), if_neg (by omega), if_pos rfl, a3, xck_of (by omega) (by omega), xlet_eq, ev]
    refine OK_bind (c_markStreet a0 hB2 hV hVd a5 rfl hv3 hn) fun s18 h => ?_
    exact OK_some ⟨by rw [h.2.2 _ _ (by omega)]; exact k3, h.1, h.2.1, fun k j c1 c2 => by rw [h.2.2 _ _ c1]; exact k0 k j c2⟩
  · subst a3
    rw [zI_of (n := 3) (by omega) (by omega), if_neg (by omega), if_neg (by omega), if_neg (by omega), if_pos rfl, xlet_eq, a4]
    refine OK_some ⟨by rw [xput_ne (by omega)]; exact k3, Bk_orders a0 hB2 hV a2 (fun i c1 c2 => a6 i (by omega) c2) (fun k j c1 c2 c3 c4 => xput_ne c3) (by rw [xput_eq, a2]) (fun o' w h' hw => ?_), ?_, fun k j c1 c2 => by rw [xput_ne (by omega)]; exact k0 k j c2⟩
    · rw [xput_ne (by omega), hB2.2.2.2.2.2.2.2.2.2.2.2.2.2.2 o' (by omega) w hw]
      exact (a6 _ (by omega) (by omega)).symm
    · exact RD_same (RD_congr hR2 hV (fun i hi h => a6 i (by omega) (by omega))) (fun a j c1 c2 => xput_ne (by omega))
  · subst a2
    rw [zI_of (n := 4) (by omega) (by omega), if_neg (by omega), if_neg (by omega), if_neg (by omega), if_neg (by omega), if_pos rfl, a3, zI_of (n := (o : Int)) (by omega) (by omega), xck_of (by omega) (by omega), xlet_eq, tn_cast]
    refine OK_some ⟨by rw [xput_ne (by omega)]; exact k3, Bk_order a0 (by omega) hB2 hV a6 (fun k j c1 c2 c3 => xput_ne c3) (by rw [xput_eq, a5]), ?_, fun k j c1 c2 => by rw [xput_ne (by omega)]; exact k0 k j c2⟩
    exact RD_same (RD_congr hR2 hV (fun i hi h => a6 i (by omega) (by omega))) (fun a j c1 c2 => xput_ne (by omega))
  · subst a2
    rw [zI_of (n := 5) (by omega) (by omega), if_neg (by omega), if_neg (by omega), if_neg (by omega), if_neg (by omega), if_neg (by omega), a3, zI_of (n := (o : Int)) (by omega) (by omega), xck_of (by omega) (by omega), xck_of (by omega) (by omega), xlet_eq, tn_cast]
    refine OK_some ⟨by rw [xput_ne (by omega)]; exact k3, Bk_order a0 (by omega) hB2 hV a5 (fun k j c1 c2 c3 => xput_ne c3) (by rw [xput_eq]; exact a4), ?_, fun k j c1 c2 => by rw [xput_ne (by omega)]; exact k0 k j c2⟩
    exact RD_same (RD_congr hR2 hV (fun i hi h => a5 i (by omega) (by omega))) (fun a j c1 c2 => xput_ne (by omega))
end CHG3
