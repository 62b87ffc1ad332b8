/-! questions of both: what is left over -/
section SUR1
variable {σ : xS} {k q b n : Nat} {β : Nat → Int} {e f t : Int} {N : Nat → Nat → Int} {M : NS}
theorem c_leftOver (hB : Bk σ b β e) (hV : V β) (hP : PV (prm β)) (hR : RN σ q β f N) (hN : NB (prm β) N) (hn : 4000000 ≤ n) (hf : 0 ≤ f ∧ f ≤ 1439) {d : Nat} (hd : (d : Int) < β 4) : m_X4_leftOver n q b d σ = some (max 0 (cbF β N d (bl β).length * dF β d 7 - loavesF β d)) := by
  have h60 : (bl β).length ≤ 60 := hP.2.2.1
  have r2 := hR.2.1
  have v4 := hV.2.2.2.2.1
  have vd := hV.2.2.2.2.2.2.2.2.2.2.1 d hd
  have hy := hB.2.2.2.2.2.2.2.2.2.2.1 d hd 7 (by omega)
  have hlo := c_loavesOf hB hV hn (d := (d : Int)) (by omega) (by omega)
  have hlb := loavesF_bd hV (d : Int)
  have hmb := mul_bd (cbF_bd (N := N) hP d (k := (bl β).length) (Nat.le_refl _)) (y := dF β d 7) (by omega)
  unfold m_X4_leftOver
  refine loop_eq (bl β).length (fun i => (cbF β N d i * dF β d 7, (i : Int))) (by simp [cbF, sumTo]) ?_ ?_ (by omega)
  · intro i hi rec
    obtain ⟨hd1, hd2, hd3⟩ := c_dough hB hV hR hi
    have hb5 := hR.2.2.2.1 i hi 5 (by omega)
    have hb2 := hN.1 i hi 2 (by omega)
    have hT := hP.1 i hi
    have ecb : cbF β N d (i + 1) = cbF β N d i + (if bkB β N d i = true then 1 else 0) := rfl
    have e5' : bgF (prm β) f N 5 i = if N 2 i = -1 then -1 else N 2 i + pT (prm β) i 5 + f := rfl
    dsimp only
    rw [ecb]
    simp (disch := omega) only [zI_of (n := (i : Int)), zI_of (n := ((bl β).length : Int)), zI_of (n := (d : Int)), zI_of (n := (((bl β).getD i 0 : Nat) : Int)), r2, hd1, if_neg, xck_of, tn_cast, tn_lit, xlet_eq, xj_eq, hb5, hy]
    by_cases c1 : (bl β).getD i 0 = d
    · rw [if_pos (show (((bl β).getD i 0 : Nat) : Int) = (d : Int) by omega)]
      by_cases c2 : N 2 i = -1
      · have hb : bkB β N d i = false := bfalse fun z => (bk_iff.mp z).2 c2
        rw [e5', if_pos c2, zI_of (by omega) (by omega), if_pos rfl, hb]
        simp
      · have hb : bkB β N d i = true := bk_iff.mpr ⟨c1, c2⟩
        rw [e5', if_neg c2, zI_of (n := N 2 i + pT (prm β) i 5 + f) (by omega) (by omega), if_neg (by omega), if_pos hb, Int.add_mul, Int.one_mul]
        rfl
    · have hb : bkB β N d i = false := bfalse fun z => c1 (bk_iff.mp z).1
      rw [if_neg (show ¬ (((bl β).getD i 0 : Nat) : Int) = (d : Int) by omega), hb]
      simp
  · intro rec
    dsimp only
    simp (disch := omega) only [zI_of (n := ((bl β).length : Int)), r2, if_pos, hlo, bind_some', zmax_of]
end SUR1
