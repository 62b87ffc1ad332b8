/-! the law: its script, calls whose answers are known, the same answer of both -/
section LAW1
variable {ρ : Type} {X : xX} {Qf : ρ → State → Prop} {cc : ByteArray} {own : String} {ret : Option FieldType} {rm : Room} {nL : Nat} {w w' : xW} {σ : xS} {pc : Nat} {L : List (Nat × Value)} {st : List Value} {o : Option ρ} {b Ln : Nat} {xs : Nat → Int32}
/-- the script lies below what the law makes -/
def lsS (X : xX) (b Ln : Nat) (xs : Nat → Int32) : Prop := va_X b Ln xs (xXs X) (xXs X).heap ∧ b < (xXs X).heap.size ∧ (xXs X).heap.size ≤ (xXE X).2.2 ∧ Ln ≤ 3072
theorem x_sld (C : xCx X cc own ret rm nL) (hs : lsS X b Ln xs) (j : Nat) {v : Int} (hv : v = (j : Int)) (hj : j < Ln) (d : decode cc pc = .ok (.iaload, 1)) (kk : WO X Qf w σ (pc + 1) L (iV (xs j).toInt :: st) o) : WO X Qf w σ pc L (iV v :: .ref b :: st) o := by
  intro r h H locs hR ls hl
  obtain ⟨hX, hb, hle, hL⟩ := hs
  have e : Int32.ofInt v = nI j := by rw [hv]; exact (ofN j).symm
  have hcl : (Int32.ofInt v).toNatClampNeg = j := by rw [e]; exact nI_clamp (by omega)
  refine va_sld (A := xA (xXE X)) (H0 := (xXs X).heap) C.1 C.2.1 hX hb (by show ¬ _ ≤ b; omega) hR.2.2 (i := Int32.ofInt v) (by rw [e]; exact nI_in hj (by omega)) d ?_
  rw [hcl]
  have h2 := kk r h H locs hR ls hl
  have e2 : iV (xs j).toInt = .int (xs j) := by
    show Value.int (Int32.ofInt (xs j).toInt) = _
    rw [Int32.ofInt_toInt]
  rw [e2] at h2
  exact h2
theorem x_slen (C : xCx X cc own ret rm nL) (hs : lsS X b Ln xs) (d : decode cc pc = .ok (.arraylength, 1)) (kk : WO X Qf w σ (pc + 1) L (iV (Ln : Int) :: st) o) : WO X Qf w σ pc L (.ref b :: st) o := by
  intro r h H locs hR ls hl
  obtain ⟨hX, hb, hle, hL⟩ := hs
  refine va_slen (A := xA (xXE X)) (H0 := (xXs X).heap) C.1 C.2.1 hX hb (by show ¬ _ ≤ b; omega) hR.2.2 d ?_
  have h2 := kk r h H locs hR ls hl
  have e2 : iV (Ln : Int) = .int (Int32.ofNat Ln) := by
    show Value.int (Int32.ofInt (Ln : Int)) = _
    rw [← ofN]
  rw [e2] at h2
  exact h2
theorem kVal {res : Option (Option Value × xS)} {v : Int} {τ : xS} (h : res = some (some (iV v), τ)) (k : WO X Qf w' τ pc L (iV v :: st) o) : xKK X Qf w' pc L st res o := fun r0 h0 => ⟨_, h, k r0 h0⟩
end LAW1
theorem i32_bd (x : Int32) : -2147483648 ≤ x.toInt ∧ x.toInt < 2147483648 := ⟨Int32.le_toInt x, Int32.toInt_lt x⟩
/-- class, then reference: the same answer -/
def KALL (c : Option (Option Value × xS)) (r : xS → Option (Option Value × xS)) : Prop := ∃ v τ υ, c = some (some (iV v), τ) ∧ r τ = some (some (iV v), υ) ∧ TI υ
theorem KALL_S {c : Option (Int × xS)} {r : xS → Option (Int × xS)} (h : CALL c r) : KALL (xrS c) (fun τ => xrS (r τ)) := by
  obtain ⟨x, rfl, -, y, hy, e, hT⟩ := h
  refine ⟨x.1, x.2, y.2, rfl, ?_, hT⟩
  show xrS (r x.2) = _
  rw [hy, ← e]
  rfl
theorem KALL_I {σ : xS} {c : Option Int} {r : xS → Option (Int × xS)} (h : CALLI σ c (r σ)) : KALL (xrI c σ) (fun τ => xrS (r τ)) := by
  obtain ⟨v, rfl, -, -, y, hy, e, hT⟩ := h
  refine ⟨v, σ, y.2, rfl, ?_, hT⟩
  show xrS (r σ) = _
  rw [hy, ← e]
  rfl
theorem KALL_P {σ : xS} {c : Int} {r : xS → Option (Int × xS)} (h : CALLI σ (some c) (r σ)) : KALL (some (some (iV c), σ)) (fun τ => xrS (r τ)) := KALL_I h
