/-! what is left over is all of the last batch -/
section SUR2
variable {σ : xS} {k q b n : Nat} {β : Nat → Int} {e f t : Int} {N : Nat → Nat → Int} {M : NS}
theorem cnt_take (l : List Nat) (d : Nat) : ∀ k, k ≤ l.length → sumTo k (fun b => if l.getD b 0 = d then (1 : Int) else 0) = (((l.take k).count d : Nat) : Int)
  | 0, _ => by simp [sumTo]
  | k + 1, hk => by
    have hlt : k < l.length := by omega
    rw [sumTo, cnt_take l d k (by omega), List.take_succ, List.count_append, List.getElem?_eq_getElem hlt]
    have e : l.getD k 0 = l[k] := by rw [List.getD_eq_getElem?_getD, List.getElem?_eq_getElem hlt]; rfl
    rw [e]
    by_cases z : l[k] = d
    · rw [if_pos z]
      simp [z]
    · rw [if_neg z]
      simp [z]
theorem cb_batches (hV : V β) {d : Nat} (hd : (d : Int) < β 4) : cbF β N d (bl β).length ≤ batchesF β d := by
  rw [← (bl_len hV).2.2 d hd]
  have h := cnt_take (bl β) d (bl β).length (Nat.le_refl _)
  rw [List.take_length] at h
  rw [← h]
  refine sumTo_le fun b hb => ?_
  by_cases z : bkB β N d b = true
  · rw [if_pos z, if_pos (bk_iff.mp z).1]
    exact Int.le_refl _
  · rw [if_neg z]
    split <;> omega
theorem takF_last (hV : V β) {d : Nat} (hd : (d : Int) < β 4) {l : Int} (h1 : loavesF β d ≤ l) (h2 : l < cbF β N d (bl β).length * dF β d 7) : takF β N d l = takF β N d (loavesF β d) := by
  have vd := hV.2.2.2.2.2.2.2.2.2.2.1 d hd
  have hlb := loavesF_bd hV (d : Int)
  have hu := upD_spec (a := loavesF β d) (y := dF β d 7) (by omega) (by omega)
  have hcb := cb_batches (N := N) hV hd
  have eB : batchesF β d = upD (loavesF β d) (dF β d 7) := rfl
  rw [← eB] at hu
  have e : takI β N d l = takI β N d (loavesF β d) := firstTo_congr fun i hi => by
    have hx : l < cbF β N d (i + 1) * dF β d 7 ↔ loavesF β d < cbF β N d (i + 1) * dF β d 7 := by
      refine ⟨fun h => by omega, fun h => ?_⟩
      rcases Int.lt_or_le (cbF β N d (i + 1)) (cbF β N d (bl β).length) with z | z
      · have h3 : (cbF β N d (i + 1) + 1) * dF β d 7 ≤ batchesF β d * dF β d 7 := Int.mul_le_mul_of_nonneg_right (by omega) (by omega)
        rw [Int.add_mul, Int.one_mul] at h3
        omega
      · have h3 := Int.mul_le_mul_of_nonneg_right z (show 0 ≤ dF β d 7 by omega)
        omega
    rw [decide_eq_decide.mpr hx]
  unfold takF
  rw [e]
end SUR2
