/-! the reference: ovens and doughs -/
section TX18
variable {T : Nat → Int} {L p cnt : Nat} {σ τ υ : xS} {n b k1 z1 c : Nat} {s : RS0} {f : Int × Nat} {S : PSt}
theorem flds_all : ∀ (l : List (Nat × Int × Int)) (s : RS0) (i : Nat), i < l.length → ∀ q, (flds T L l s).getD i (.inl (0, 0)) = .inr q → (∃ p, s = .inr p) ∧ ∀ j, j ≤ i → ∃ q', (flds T L l s).getD j (.inl (0, 0)) = .inr q' := by
  intro l
  induction l with
  | nil => intro s i hi; exact absurd hi (by show ¬ i < 0; omega)
  | cons a l ih =>
    obtain ⟨w, lo, hi⟩ := a
    intro s i hil q hq
    cases i with
    | zero =>
      have hq' : bnd s (rFld T L w lo hi) = .inr q := hq
      obtain ⟨q0, h1, h2⟩ := bnd_inr hq'
      refine ⟨⟨q0, h1⟩, fun j hj => ?_⟩
      have : j = 0 := by omega
      subst this
      exact ⟨q, hq⟩
    | succ i =>
      have hq' : (flds T L l (nxS (bnd s (rFld T L w lo hi)))).getD i (.inl (0, 0)) = .inr q := hq
      obtain ⟨⟨p', h1⟩, h3⟩ := ih _ i (by have : i + 1 < l.length + 1 := hil; omega) q hq'
      obtain ⟨v, hv⟩ := nx_inr h1
      obtain ⟨q0, h4, h5⟩ := bnd_inr hv
      refine ⟨⟨q0, h4⟩, fun j hj => ?_⟩
      cases j with
      | zero => exact ⟨_, hv⟩
      | succ j => exact h3 j (by omega)
theorem va_inr {r : RS1} {q : Int × Nat} (h : r = .inr q) : vaS r = q.1 := by
  rw [h]
  rfl
theorem r_ovenFields {s0 : RS0} {ρ : Type} {F : xS → Option ρ} {Q : ρ → Prop} (hs : rtS σ T L s0) (hc : c < 4) (hn : 4000000 ≤ n) (hF : ∀ τ, rtS τ T L (nxS ((flds T L oFl s0).getD 2 (.inl (0, 0)))) → (∀ q, (flds T L oFl s0).getD 2 (.inl (0, 0)) = .inr q → ∀ w, w < 3 → τ 186 (70 + 4 * c + w) = vaS ((flds T L oFl s0).getD w (.inl (0, 0)))) → (∀ k i, ¬ (k = 186 ∧ 70 + 4 * c ≤ i ∧ i < 70 + 4 * c + 3) → ¬ (k = 184 ∧ (i = 11 ∨ i = 12 ∨ i = 13 ∨ i = 14)) → τ k i = σ k i) → OK (F τ) Q) : OK ((m_X13_part n ((70 + 4 * (c : Int) : Int) + 0) 16 1 6 σ).bind fun x0 => (m_X13_part n ((70 + 4 * (c : Int) : Int) + 1) 11 20 300 x0).bind fun x1 => (m_X13_part n ((70 + 4 * (c : Int) : Int) + 2) 17 1 50 x1).bind fun x2 => F x2) Q := by
  rw [show (70 + 4 * (c : Int) : Int) + 0 = ((70 + 4 * c + 0 : Nat) : Int) from by omega]
  refine OK_bind (r_part (w := 16) (K := 70 + 4 * c + 0) (lo := 1) (hi := 6) hs (by omega) (by omega) (by omega) hn) (fun u0 t0 => ?_)
  rw [show (70 + 4 * (c : Int) : Int) + 1 = ((70 + 4 * c + 1 : Nat) : Int) from by omega]
  refine OK_bind (r_part (w := 11) (K := 70 + 4 * c + 1) (lo := 20) (hi := 300) t0.1 (by omega) (by omega) (by omega) hn) (fun u1 t1 => ?_)
  rw [show (70 + 4 * (c : Int) : Int) + 2 = ((70 + 4 * c + 2 : Nat) : Int) from by omega]
  refine OK_bind (r_part (w := 17) (K := 70 + 4 * c + 2) (lo := 1) (hi := 50) t1.1 (by omega) (by omega) (by omega) hn) (fun u2 t2 => ?_)
  have hf : ∀ k i, ¬ (k = 186 ∧ 70 + 4 * c ≤ i ∧ i < 70 + 4 * c + 3) → ¬ (k = 184 ∧ (i = 11 ∨ i = 12 ∨ i = 13 ∨ i = 14)) → u2 k i = σ k i := fun k i c1 c2 => by
    rw [t2.2.2 _ _ (by omega) c2, t1.2.2 _ _ (by omega) c2, t0.2.2 _ _ (by omega) c2]
  refine hF u2 t2.1 (fun q hq w hw => ?_) hf
  obtain ⟨-, hall⟩ := flds_all oFl s0 2 (by decide) q hq
  have : w = 0 ∨ w = 1 ∨ w = 2 := by omega
  rcases this with rfl | rfl | rfl
  · obtain ⟨q', hq'⟩ := hall 0 (by omega)
    rw [va_inr hq', t2.2.2 _ _ (by omega) (by omega), t1.2.2 _ _ (by omega) (by omega)]
    exact t0.2.1 q' hq'
  · obtain ⟨q', hq'⟩ := hall 1 (by omega)
    rw [va_inr hq', t2.2.2 _ _ (by omega) (by omega)]
    exact t1.2.1 q' hq'
  · obtain ⟨q', hq'⟩ := hall 2 (by omega)
    rw [va_inr hq']
    exact t2.2.1 q' hq'
theorem r_doughFields {s0 : RS0} {ρ : Type} {F : xS → Option ρ} {Q : ρ → Prop} (hs : rtS σ T L s0) (hc : c < 6) (hn : 4000000 ≤ n) (hF : ∀ τ, rtS τ T L (nxS ((flds T L dFl s0).getD 9 (.inl (0, 0)))) → (∀ q, (flds T L dFl s0).getD 9 (.inl (0, 0)) = .inr q → ∀ w, w < 10 → τ 186 (10 + 10 * c + w) = vaS ((flds T L dFl s0).getD w (.inl (0, 0)))) → (∀ k i, ¬ (k = 186 ∧ 10 + 10 * c ≤ i ∧ i < 10 + 10 * c + 10) → ¬ (k = 184 ∧ (i = 11 ∨ i = 12 ∨ i = 13 ∨ i = 14)) → τ k i = σ k i) → OK (F τ) Q) : OK ((m_X13_part n ((10 + 10 * (c : Int) : Int) + 0) 5 1 120 σ).bind fun x0 => (m_X13_part n ((10 + 10 * (c : Int) : Int) + 1) 6 0 300 x0).bind fun x1 => (m_X13_part n ((10 + 10 * (c : Int) : Int) + 2) 7 1 120 x1).bind fun x2 => (m_X13_part n ((10 + 10 * (c : Int) : Int) + 3) 8 0 300 x2).bind fun x3 => (m_X13_part n ((10 + 10 * (c : Int) : Int) + 4) 9 0 240 x3).bind fun x4 => (m_X13_part n ((10 + 10 * (c : Int) : Int) + 5) 10 1 120 x4).bind fun x5 => (m_X13_part n ((10 + 10 * (c : Int) : Int) + 6) 11 100 300 x5).bind fun x6 => (m_X13_part n ((10 + 10 * (c : Int) : Int) + 7) 12 5 200 x6).bind fun x7 => (m_X13_part n ((10 + 10 * (c : Int) : Int) + 8) 13 1 1440 x7).bind fun x8 => (m_X13_part n ((10 + 10 * (c : Int) : Int) + 9) 14 0 999 x8).bind fun x9 => F x9) Q := by
  rw [show (10 + 10 * (c : Int) : Int) + 0 = ((10 + 10 * c + 0 : Nat) : Int) from by omega]
  refine OK_bind (r_part (w := 5) (K := 10 + 10 * c + 0) (lo := 1) (hi := 120) hs (by omega) (by omega) (by omega) hn) (fun u0 t0 => ?_)
  rw [show (10 + 10 * (c : Int) : Int) + 1 = ((10 + 10 * c + 1 : Nat) : Int) from by omega]
  refine OK_bind (r_part (w := 6) (K := 10 + 10 * c + 1) (lo := 0) (hi := 300) t0.1 (by omega) (by omega) (by omega) hn) (fun u1 t1 => ?_)
  rw [show (10 + 10 * (c : Int) : Int) + 2 = ((10 + 10 * c + 2 : Nat) : Int) from by omega]
  refine OK_bind (r_part (w := 7) (K := 10 + 10 * c + 2) (lo := 1) (hi := 120) t1.1 (by omega) (by omega) (by omega) hn) (fun u2 t2 => ?_)
  rw [show (10 + 10 * (c : Int) : Int) + 3 = ((10 + 10 * c + 3 : Nat) : Int) from by omega]
  refine OK_bind (r_part (w := 8) (K := 10 + 10 * c + 3) (lo := 0) (hi := 300) t2.1 (by omega) (by omega) (by omega) hn) (fun u3 t3 => ?_)
  rw [show (10 + 10 * (c : Int) : Int) + 4 = ((10 + 10 * c + 4 : Nat) : Int) from by omega]
  refine OK_bind (r_part (w := 9) (K := 10 + 10 * c + 4) (lo := 0) (hi := 240) t3.1 (by omega) (by omega) (by omega) hn) (fun u4 t4 => ?_)
  rw [show (10 + 10 * (c : Int) : Int) + 5 = ((10 + 10 * c + 5 : Nat) : Int) from by omega]
  refine OK_bind (r_part (w := 10) (K := 10 + 10 * c + 5) (lo := 1) (hi := 120) t4.1 (by omega) (by omega) (by omega) hn) (fun u5 t5 => ?_)
  rw [show (10 + 10 * (c : Int) : Int) + 6 = ((10 + 10 * c + 6 : Nat) : Int) from by omega]
  refine OK_bind (r_part (w := 11) (K := 10 + 10 * c + 6) (lo := 100) (hi := 300) t5.1 (by omega) (by omega) (by omega) hn) (fun u6 t6 => ?_)
  rw [show (10 + 10 * (c : Int) : Int) + 7 = ((10 + 10 * c + 7 : Nat) : Int) from by omega]
  refine OK_bind (r_part (w := 12) (K := 10 + 10 * c + 7) (lo := 5) (hi := 200) t6.1 (by omega) (by omega) (by omega) hn) (fun u7 t7 => ?_)
  rw [show (10 + 10 * (c : Int) : Int) + 8 = ((10 + 10 * c + 8 : Nat) : Int) from by omega]
  refine OK_bind (r_part (w := 13) (K := 10 + 10 * c + 8) (lo := 1) (hi := 1440) t7.1 (by omega) (by omega) (by omega) hn) (fun u8 t8 => ?_)
  rw [show (10 + 10 * (c : Int) : Int) + 9 = ((10 + 10 * c + 9 : Nat) : Int) from by omega]
  refine OK_bind (r_part (w := 14) (K := 10 + 10 * c + 9) (lo := 0) (hi := 999) t8.1 (by omega) (by omega) (by omega) hn) (fun u9 t9 => ?_)
  have hf : ∀ k i, ¬ (k = 186 ∧ 10 + 10 * c ≤ i ∧ i < 10 + 10 * c + 10) → ¬ (k = 184 ∧ (i = 11 ∨ i = 12 ∨ i = 13 ∨ i = 14)) → u9 k i = σ k i := fun k i c1 c2 => by
    rw [t9.2.2 _ _ (by omega) c2, t8.2.2 _ _ (by omega) c2, t7.2.2 _ _ (by omega) c2, t6.2.2 _ _ (by omega) c2, t5.2.2 _ _ (by omega) c2, t4.2.2 _ _ (by omega) c2, t3.2.2 _ _ (by omega) c2, t2.2.2 _ _ (by omega) c2, t1.2.2 _ _ (by omega) c2, t0.2.2 _ _ (by omega) c2]
  refine hF u9 t9.1 (fun q hq w hw => ?_) hf
  obtain ⟨-, hall⟩ := flds_all dFl s0 9 (by decide) q hq
  have : w = 0 ∨ w = 1 ∨ w = 2 ∨ w = 3 ∨ w = 4 ∨ w = 5 ∨ w = 6 ∨ w = 7 ∨ w = 8 ∨ w = 9 := by omega
  rcases this with rfl | rfl | rfl | rfl | rfl | rfl | rfl | rfl | rfl | rfl
  · obtain ⟨q', hq'⟩ := hall 0 (by omega)
    rw [va_inr hq', t9.2.2 _ _ (by omega) (by omega), t8.2.2 _ _ (by omega) (by omega), t7.2.2 _ _ (by omega) (by omega), t6.2.2 _ _ (by omega) (by omega), t5.2.2 _ _ (by omega) (by omega), t4.2.2 _ _ (by omega) (by omega), t3.2.2 _ _ (by omega) (by omega), t2.2.2 _ _ (by omega) (by omega), t1.2.2 _ _ (by omega) (by omega)]
    exact t0.2.1 q' hq'
  · obtain ⟨q', hq'⟩ := hall 1 (by omega)
    rw [va_inr hq', t9.2.2 _ _ (by omega) (by omega), t8.2.2 _ _ (by omega) (by omega), t7.2.2 _ _ (by omega) (by omega), t6.2.2 _ _ (by omega) (by omega), t5.2.2 _ _ (by omega) (by omega), t4.2.2 _ _ (by omega) (by omega), t3.2.2 _ _ (by omega) (by omega), t2.2.2 _ _ (by omega) (by omega)]
    exact t1.2.1 q' hq'
  · obtain ⟨q', hq'⟩ := hall 2 (by omega)
    rw [va_inr hq', t9.2.2 _ _ (by omega) (by omega), t8.2.2 _ _ (by omega) (by omega), t7.2.2 _ _ (by omega) (by omega), t6.2.2 _ _ (by omega) (by omega), t5.2.2 _ _ (by omega) (by omega), t4.2.2 _ _ (by omega) (by omega), t3.2.2 _ _ (by omega) (by omega)]
    exact t2.2.1 q' hq'
  · obtain ⟨q', hq'⟩ := hall 3 (by omega)
    rw [va_inr hq', t9.2.2 _ _ (by omega) (by omega), t8.2.2 _ _ (by omega) (by omega), t7.2.2 _ _ (by omega) (by omega), t6.2.2 _ _ (by omega) (by omega), t5.2.2 _ _ (by omega) (by omega), t4.2.2 _ _ (by omega) (by omega)]
    exact t3.2.1 q' hq'
  · obtain ⟨q', hq'⟩ := hall 4 (by omega)
    rw [va_inr hq', t9.2.2 _ _ (by omega) (by omega), t8.2.2 _ _ (by omega) (by omega), t7.2.2 _ _ (by omega) (by omega), t6.2.2 _ _ (by omega) (by omega), t5.2.2 _ _ (by omega) (by omega)]
    exact t4.2.1 q' hq'
  · obtain ⟨q', hq'⟩ := hall 5 (by omega)
    rw [va_inr hq', t9.2.2 _ _ (by omega) (by omega), t8.2.2 _ _ (by omega) (by omega), t7.2.2 _ _ (by omega) (by omega), t6.2.2 _ _ (by omega) (by omega)]
    exact t5.2.1 q' hq'
  · obtain ⟨q', hq'⟩ := hall 6 (by omega)
    rw [va_inr hq', t9.2.2 _ _ (by omega) (by omega), t8.2.2 _ _ (by omega) (by omega), t7.2.2 _ _ (by omega) (by omega)]
    exact t6.2.1 q' hq'
  · obtain ⟨q', hq'⟩ := hall 7 (by omega)
    rw [va_inr hq', t9.2.2 _ _ (by omega) (by omega), t8.2.2 _ _ (by omega) (by omega)]
    exact t7.2.1 q' hq'
  · obtain ⟨q', hq'⟩ := hall 8 (by omega)
    rw [va_inr hq', t9.2.2 _ _ (by omega) (by omega)]
    exact t8.2.1 q' hq'
  · obtain ⟨q', hq'⟩ := hall 9 (by omega)
    rw [va_inr hq']
    exact t9.2.1 q' hq'
end TX18
