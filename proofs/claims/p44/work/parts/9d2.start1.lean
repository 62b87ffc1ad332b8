/-! the start: what the tables say of the classes -/
section ST1
variable {args : Array Value} {s : State}
theorem lt_arr {ty : FieldType} (h : (Cond.arrayClass ty).before args s = true) : ∃ (c comp : ClassId) (k : Class), s.vm.findClass ("[" ++ ty.toString) = some c ∧ s.vm.classes[c]? = some k ∧ k.kind = .array comp ty := by
  obtain ⟨c, k, comp, h1, h2, h3⟩ := Cond.arrayClass_spec h
  exact ⟨c, comp, k, h1, h2, h3⟩
theorem lt_arrO {ty : FieldType} {c comp : ClassId} {k : Class} (h2 : s.vm.classes[c]? = some k) (h3 : k.kind = .array comp ty) : ArrOfT s c ty := fun N z => ⟨(fun k h => by cases h), k, h2, comp, h3⟩
/-- the classes of the world and its arrays -/
theorem lt_K (hG : ∀ w ∈ GW, w.before args s = true) (o2 : (Cond.arrayOver (.object RX2)).before args s = true) (o6 : (Cond.arrayOver (.object RX6)).before args s = true) (o5 : (Cond.arrayOver (.object RX5)).before args s = true) (oI : (Cond.arrayOver (.array .int)).before args s = true) : ∃ (D : va_G) (cA : Nat → ClassId), va_K D vwCl (xtys cA) s := by
  have hcl : ∀ c : Nat, ∃ q : ClassId × (Nat → Nat), ∀ v, vwCl[c]? = some v → u_Kn s v.1 v.2.1 v.2.2 q.1 q.2 := by
    intro c
    have key : ∀ (C : String) (T : u_T) (N n : Nat), (∀ w ∈ u_ws C T N, w ∈ GW) → Cond.instantiable C n ∈ GW → ∃ q : ClassId × (Nat → Nat), u_Kn s C T N q.1 q.2 := by
      intro C T N n h1 h2
      obtain ⟨cC, iS, h⟩ := u_known (N := N) hG h1 (hG _ h2)
      exact ⟨(cC, iS), h⟩
    match c with
    | 0 => obtain ⟨q, h⟩ := key RX1 TX1 14 14 lay_X1 wd150; exact ⟨q, fun v hv => by cases hv; exact h⟩
    | 1 => obtain ⟨q, h⟩ := key RX2 TX2 10 10 lay_X2 wd157; exact ⟨q, fun v hv => by cases hv; exact h⟩
    | 2 => obtain ⟨q, h⟩ := key RX3 TX3 4 4 lay_X3 wd419; exact ⟨q, fun v hv => by cases hv; exact h⟩
    | 3 => obtain ⟨q, h⟩ := key RX4 TX4 20 20 lay_X4 wd439; exact ⟨q, fun v hv => by cases hv; exact h⟩
    | 4 => obtain ⟨q, h⟩ := key RX5 TX5 5 5 lay_X5 wd233; exact ⟨q, fun v hv => by cases hv; exact h⟩
    | 5 => obtain ⟨q, h⟩ := key RX6 TX6 4 4 lay_X6 wd206; exact ⟨q, fun v hv => by cases hv; exact h⟩
    | 6 => obtain ⟨q, h⟩ := key RX7 TX7 9 9 lay_X7 wd89; exact ⟨q, fun v hv => by cases hv; exact h⟩
    | 7 => obtain ⟨q, h⟩ := key RX8 TX8 15 15 lay_X8 wd514; exact ⟨q, fun v hv => by cases hv; exact h⟩
    | 8 => obtain ⟨q, h⟩ := key RX9 TX9 7 7 lay_X9 wd268; exact ⟨q, fun v hv => by cases hv; exact h⟩
    | 9 => obtain ⟨q, h⟩ := key RX10 TX10 5 5 lay_X10 wd95; exact ⟨q, fun v hv => by cases hv; exact h⟩
    | 10 => obtain ⟨q, h⟩ := key RX12 TX12 12 12 lay_X12 wd81; exact ⟨q, fun v hv => by cases hv; exact h⟩
    | 11 => obtain ⟨q, h⟩ := key RJ0 TJ0 4 4 lay_J0 wd1268; exact ⟨q, fun v hv => by cases hv; exact h⟩
    | 12 => obtain ⟨q, h⟩ := key RJ4 TJ4 4 4 lay_J4 wd1099; exact ⟨q, fun v hv => by cases hv; exact h⟩
    | n + 13 => exact ⟨(0, fun _ => 0), fun v hv => by cases hv⟩
  obtain ⟨q, hq⟩ := Classical.axiomOfChoice hcl
  obtain ⟨c0, p0, k0, a0, b0, d0⟩ := lt_arr (hG _ wdA0)
  obtain ⟨c1, p1, k1, a1, b1, d1⟩ := lt_arr (hG _ wdA1)
  obtain ⟨c2, p2, k2, a2, b2, d2⟩ := lt_arr (hG _ wdA2)
  obtain ⟨c3, p3, k3, a3, b3, d3⟩ := lt_arr (hG _ wdA3)
  obtain ⟨p4, c4, k4, e4, -, b4, d4, a4⟩ := arrayOverA_spec oI
  obtain ⟨p5, c5, k5, e5, -, b5, d5, a5⟩ := Cond.arrayOver_spec o2
  obtain ⟨p6, c6, k6, e6, -, b6, d6, a6⟩ := Cond.arrayOver_spec o6
  obtain ⟨p7, c7, k7, e7, -, b7, d7, a7⟩ := Cond.arrayOver_spec o5
  refine ⟨(fun c => (q c).1, fun c => (q c).2), fun k => match k with | 0 => c0 | 1 => c1 | 2 => c2 | 3 => c3 | 4 => c4 | 5 => c5 | 6 => c6 | _ => c7, fun c v hv => hq c v hv, fun k v hv => ?_⟩
  match k with
  | 0 => cases hv; exact ⟨lt_arrO b0 d0, a0⟩
  | 1 => cases hv; exact ⟨lt_arrO b1 d1, a1⟩
  | 2 => cases hv; exact ⟨lt_arrO b2 d2, a2⟩
  | 3 => cases hv; exact ⟨lt_arrO b3 d3, a3⟩
  | 4 => cases hv; exact ⟨lt_arrO b4 d4, a4⟩
  | 5 => cases hv; exact ⟨lt_arrO b5 d5, k5, p5, b5, d5, e5, a5⟩
  | 6 => cases hv; exact ⟨lt_arrO b6 d6, k6, p6, b6, d6, e6, a6⟩
  | 7 => cases hv; exact ⟨lt_arrO b7 d7, k7, p7, b7, d7, e7, a7⟩
  | n + 8 => cases hv
end ST1
