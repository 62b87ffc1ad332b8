/-! THE LAW'S TEXT, pure: letters in words of four, and back -/
theorem zor_N {x y : Nat} (hx : x < 2147483648) (hy : y < 2147483648) : Int32.ofInt (zor (x : Int) (y : Int)) = Int32.ofNat (x ||| y) := by
  unfold zor
  rw [Int32.ofInt_toInt]
  apply Int32.toBitVec_inj.mp
  rw [Int32.toBitVec_or]
  apply BitVec.eq_of_toNat_eq
  rw [BitVec.toNat_or]
  have e : ∀ n : Nat, n < 2147483648 → (Int32.ofInt (n : Int)).toBitVec.toNat = n := fun n hn => by
    rw [← ofN]
    show (BitVec.ofNat 32 n).toNat = n
    rw [BitVec.toNat_ofNat, Nat.mod_eq_of_lt (by omega)]
  have e2 : (Int32.ofNat (x ||| y)).toBitVec.toNat = x ||| y := by
    show (BitVec.ofNat 32 (x ||| y)).toNat = x ||| y
    have : x ||| y < 2 ^ 31 := Nat.or_lt_two_pow hx hy
    rw [BitVec.toNat_ofNat, Nat.mod_eq_of_lt (by omega)]
  rw [e x hx, e y hy, e2]
theorem ofN_toInt {n : Nat} (h : n < 2147483648) : (Int32.ofNat n).toInt = (n : Int) := by
  rw [ofN]
  exact zI_eq (by omega) (by omega)
theorem zshl_N {c s : Nat} (hc : c < 128) (hs : s ≤ 24) : zshl (c : Int) (s : Int) = ((c * 2 ^ s : Nat) : Int) := by
  have hlt : c * 2 ^ s < 2147483648 := by
    have : 2 ^ s ≤ 2 ^ 24 := Nat.pow_le_pow_right (by decide) hs
    calc c * 2 ^ s ≤ 127 * 2 ^ 24 := Nat.mul_le_mul (by omega) this
      _ < 2147483648 := by decide
  unfold zshl
  rw [← ofN_toInt hlt]
  congr 1
  apply Int32.toBitVec_inj.mp
  apply BitVec.eq_of_toNat_eq
  have e31 : (Int32.ofInt (s : Int) &&& 31 : Int32) = Int32.ofNat s := by
    have : ∀ s, s ≤ 24 → (Int32.ofInt ((s : Nat) : Int) &&& 31 : Int32) = Int32.ofNat s := by decide
    exact this s hs
  rw [e31, ← ofN]
  have e5 : (Int32.ofNat c <<< Int32.ofNat s).toBitVec = (BitVec.ofNat 32 c) <<< s := by
    have : ∀ s, s ≤ 24 → ((Int32.ofNat s).toBitVec.smod 32#32).toNat = s := by decide
    rw [Int32.toBitVec_shiftLeft]
    show (BitVec.ofNat 32 c) <<< ((Int32.ofNat s).toBitVec.smod 32) = _
    rw [BitVec.shiftLeft_eq']
    congr 1
    exact this s hs
  rw [e5]
  show ((BitVec.ofNat 32 c) <<< s).toNat = (BitVec.ofNat 32 (c * 2 ^ s)).toNat
  rw [BitVec.toNat_shiftLeft, BitVec.toNat_ofNat, BitVec.toNat_ofNat, Nat.shiftLeft_eq, Nat.mod_eq_of_lt (show c < 2 ^ 32 by omega)]
theorem zshr_N {v s : Nat} (hv : v < 2147483648) (hs : s ≤ 24) : zshr (v : Int) (s : Int) = ((v / 2 ^ s : Nat) : Int) := by
  have hlt : v / 2 ^ s < 2147483648 := Nat.lt_of_le_of_lt (Nat.div_le_self _ _) hv
  unfold zshr
  rw [← ofN_toInt hlt]
  congr 1
  apply Int32.toBitVec_inj.mp
  apply BitVec.eq_of_toNat_eq
  have e31 : (Int32.ofInt (s : Int) &&& 31 : Int32) = Int32.ofNat s := by
    have : ∀ s, s ≤ 24 → (Int32.ofInt ((s : Nat) : Int) &&& 31 : Int32) = Int32.ofNat s := by decide
    exact this s hs
  rw [e31, ← ofN]
  have e5 : (Int32.ofNat v >>> Int32.ofNat s).toBitVec = (BitVec.ofNat 32 v).sshiftRight s := by
    have : ∀ s, s ≤ 24 → ((Int32.ofNat s).toBitVec.smod 32#32).toNat = s := by decide
    rw [Int32.toBitVec_shiftRight]
    show (BitVec.ofNat 32 v).sshiftRight ((Int32.ofNat s).toBitVec.smod 32#32).toNat = _
    rw [this s hs]
  rw [e5]
  have hm : (BitVec.ofNat 32 v).msb = false := by
    rw [BitVec.msb_eq_false_iff_two_mul_lt, BitVec.toNat_ofNat, Nat.mod_eq_of_lt (by omega)]
    omega
  rw [BitVec.toNat_sshiftRight_of_msb_false hm]
  show _ = (BitVec.ofNat 32 (v / 2 ^ s)).toNat
  rw [BitVec.toNat_ofNat, BitVec.toNat_ofNat, Nat.shiftRight_eq_div_pow, Nat.mod_eq_of_lt (show v < 2 ^ 32 by omega), Nat.mod_eq_of_lt (show v / 2 ^ s < 2 ^ 32 by omega)]
theorem i8_N {w : Nat} (hw : w < 2147483648) (h : w % 256 < 128) : ((Int32.ofInt (w : Int)).toInt8.toInt32).toInt = ((w % 256 : Nat) : Int) := by
  rw [Int8.toInt_toInt32, Int32.toInt_toInt8]
  have e : (Int32.ofInt (w : Int)).toInt = w := zI_eq (by omega) (by omega)
  rw [e]
  show (if (w : Int) % 256 < (256 + 1) / 2 then (w : Int) % 256 else (w : Int) % 256 - 256) = _
  split <;> omega
theorem byW_N {v k : Nat} (hv : v < 2147483648) (hk : k < 4) (hc : v / 2 ^ (24 - 8 * k) % 256 < 128) : byW (v : Int) k = ((v / 2 ^ (24 - 8 * k) % 256 : Nat) : Int) := by
  unfold byW
  have e : (24 - 8 * (k : Int)) = ((24 - 8 * k : Nat) : Int) := by omega
  rw [e, zshr_N hv (by omega)]
  have hlt : v / 2 ^ (24 - 8 * k) < 2147483648 := Nat.lt_of_le_of_lt (Nat.div_le_self _ _) hv
  unfold zi2b
  rw [i8_N hlt hc]
  unfold zb
  rw [vp_nar_byte, i8_N (by omega) (by omega)]
  omega
/-- the k-th word behind i letters -/
def wv (g : Nat → Nat) : Nat → Nat → Nat
  | 0, _ => 0
  | i + 1, k => if i / 4 = k then wv g i k ||| g i * 2 ^ (24 - 8 * (i % 4)) else wv g i k
theorem wv_lt {g : Nat → Nat} (hg : ∀ j, g j < 128) : ∀ i k, wv g i k < 2147483648 := by
  intro i
  induction i with
  | zero => intro k; exact (by decide : (0 : Nat) < 2147483648)
  | succ i ih =>
    intro k
    unfold wv
    split
    · have h1 : g i * 2 ^ (24 - 8 * (i % 4)) < 2 ^ 31 := by
        have h2 : 2 ^ (24 - 8 * (i % 4)) ≤ 2 ^ 24 := Nat.pow_le_pow_right (by decide) (by omega)
        calc g i * 2 ^ (24 - 8 * (i % 4)) ≤ 127 * 2 ^ 24 := Nat.mul_le_mul (by have := hg i; omega) h2
          _ < 2 ^ 31 := by decide
      exact Nat.or_lt_two_pow (ih k) h1
    · exact ih k
theorem or_add {a b s : Nat} (hb : b < 2 ^ s) : a * 2 ^ s ||| b = a * 2 ^ s + b := by
  rw [← Nat.shiftLeft_eq, Nat.shiftLeft_add_eq_or_of_lt hb]
theorem wv_word {g : Nat → Nat} (hg : ∀ j, g j < 128) (k : Nat) (hk : k < 5) : wv g 20 k = g (4 * k) * 16777216 + g (4 * k + 1) * 65536 + g (4 * k + 2) * 256 + g (4 * k + 3) := by
  have key : ∀ a b c d : Nat, a < 128 → b < 128 → c < 128 → d < 128 → ((((0 ||| a * 2 ^ 24) ||| b * 2 ^ 16) ||| c * 2 ^ 8) ||| d * 2 ^ 0) = a * 16777216 + b * 65536 + c * 256 + d := by
    intro a b c d ha hb hc hd
    rw [Nat.zero_or, or_add (show b * 2 ^ 16 < 2 ^ 24 by omega)]
    rw [show a * 2 ^ 24 + b * 2 ^ 16 = (a * 256 + b) * 2 ^ 16 by omega, or_add (show c * 2 ^ 8 < 2 ^ 16 by omega)]
    rw [show (a * 256 + b) * 2 ^ 16 + c * 2 ^ 8 = ((a * 256 + b) * 256 + c) * 2 ^ 8 by omega, or_add (show d * 2 ^ 0 < 2 ^ 8 by omega)]
    omega
  rcases (show k = 0 ∨ k = 1 ∨ k = 2 ∨ k = 3 ∨ k = 4 by omega) with rfl | rfl | rfl | rfl | rfl
  · have e : wv g 20 0 = ((((0 ||| g 0 * 2 ^ 24) ||| g 1 * 2 ^ 16) ||| g 2 * 2 ^ 8) ||| g 3 * 2 ^ 0) := by simp [wv]
    exact e.trans (key _ _ _ _ (hg _) (hg _) (hg _) (hg _))
  · have e : wv g 20 1 = ((((0 ||| g 4 * 2 ^ 24) ||| g 5 * 2 ^ 16) ||| g 6 * 2 ^ 8) ||| g 7 * 2 ^ 0) := by simp [wv]
    exact e.trans (key _ _ _ _ (hg _) (hg _) (hg _) (hg _))
  · have e : wv g 20 2 = ((((0 ||| g 8 * 2 ^ 24) ||| g 9 * 2 ^ 16) ||| g 10 * 2 ^ 8) ||| g 11 * 2 ^ 0) := by simp [wv]
    exact e.trans (key _ _ _ _ (hg _) (hg _) (hg _) (hg _))
  · have e : wv g 20 3 = ((((0 ||| g 12 * 2 ^ 24) ||| g 13 * 2 ^ 16) ||| g 14 * 2 ^ 8) ||| g 15 * 2 ^ 0) := by simp [wv]
    exact e.trans (key _ _ _ _ (hg _) (hg _) (hg _) (hg _))
  · have e : wv g 20 4 = ((((0 ||| g 16 * 2 ^ 24) ||| g 17 * 2 ^ 16) ||| g 18 * 2 ^ 8) ||| g 19 * 2 ^ 0) := by simp [wv]
    exact e.trans (key _ _ _ _ (hg _) (hg _) (hg _) (hg _))
theorem wv_byte {g : Nat → Nat} (hg : ∀ j, g j < 128) (p : Nat) (hp : p < 20) : byW ((wv g 20 (p / 4) : Nat) : Int) (p % 4) = (g p : Int) := by
  have h0 := wv_word hg (p / 4) (by omega)
  have a := hg (4 * (p / 4))
  have b := hg (4 * (p / 4) + 1)
  have c := hg (4 * (p / 4) + 2)
  have d := hg (4 * (p / 4) + 3)
  have e : wv g 20 (p / 4) / 2 ^ (24 - 8 * (p % 4)) % 256 = g p := by
    rw [h0]
    rcases (show p % 4 = 0 ∨ p % 4 = 1 ∨ p % 4 = 2 ∨ p % 4 = 3 by omega) with q | q | q | q
    · rw [q, show g p = g (4 * (p / 4)) from congrArg g (by omega)]
      omega
    · rw [q, show g p = g (4 * (p / 4) + 1) from congrArg g (by omega)]
      omega
    · rw [q, show g p = g (4 * (p / 4) + 2) from congrArg g (by omega)]
      omega
    · rw [q, show g p = g (4 * (p / 4) + 3) from congrArg g (by omega)]
      omega
  rw [byW_N (wv_lt hg _ _) (by omega) (by rw [e]; exact hg p), e]
theorem fdB_wv {g : Nat → Nat} (hg : ∀ j, g j < 128) (p : Nat) (hp : p < 20) : fdB (wv g 20 0 : Nat) (wv g 20 1 : Nat) (wv g 20 2 : Nat) (wv g 20 3 : Nat) (wv g 20 4 : Nat) p = (g p : Int) := by
  rw [← wv_byte hg p hp]
  unfold fdB
  congr 1
  unfold fdW
  rcases (show p / 4 = 0 ∨ p / 4 = 1 ∨ p / 4 = 2 ∨ p / 4 = 3 ∨ p / 4 = 4 by omega) with q | q | q | q | q
  · rw [if_pos (by omega), q]
  · rw [if_neg (by omega), if_pos (by omega), q]
  · rw [if_neg (by omega), if_neg (by omega), if_pos (by omega), q]
  · rw [if_neg (by omega), if_neg (by omega), if_neg (by omega), if_pos (by omega), q]
  · rw [if_neg (by omega), if_neg (by omega), if_neg (by omega), if_neg (by omega), q]
/-- feed, the class's side -/
theorem c_feed {σ : xS} {L n : Nat} {p1 p2 p3 p4 p5 : Int} (f1 : σ 0 1 = (L : Int)) (hL : L + 20 ≤ 1600) (hn : 4000000 ≤ n) : OK (m_X12_feed n p1 p2 p3 p4 p5 σ) (fun x => x.2 0 1 = ((L + 20 : Nat) : Int) ∧ (∀ j, x.2 1 j = if L ≤ j ∧ j < L + 20 then fdB p1 p2 p3 p4 p5 (j - L) else σ 1 j) ∧ ∀ a j, a ≠ 1 → ¬ (a = 0 ∧ j = 1) → x.2 a j = σ a j) := by
  unfold m_X12_feed
  rw [f1, zI_of (n := (L : Int) + 20) (by omega) (by omega), if_pos (by omega)]
  have w0 : ∀ i, i < 4 → fdW p1 p2 p3 p4 p5 (4 * 0 + i) = p1 := fun i hi => if_pos (by omega)
  have w1 : ∀ i, i < 4 → fdW p1 p2 p3 p4 p5 (4 * 1 + i) = p2 := fun i hi => by unfold fdW; rw [if_neg (by omega), if_pos (by omega)]
  have w2 : ∀ i, i < 4 → fdW p1 p2 p3 p4 p5 (4 * 2 + i) = p3 := fun i hi => by unfold fdW; rw [if_neg (by omega), if_neg (by omega), if_pos (by omega)]
  have w3 : ∀ i, i < 4 → fdW p1 p2 p3 p4 p5 (4 * 3 + i) = p4 := fun i hi => by unfold fdW; rw [if_neg (by omega), if_neg (by omega), if_neg (by omega), if_pos (by omega)]
  have w4 : ∀ i, i < 4 → fdW p1 p2 p3 p4 p5 (4 * 4 + i) = p5 := fun i hi => by unfold fdW; rw [if_neg (by omega), if_neg (by omega), if_neg (by omega), if_neg (by omega)]
  refine OK_bind (c_appendAt (s := σ) (a := 0) f1 (by omega) (fun j => by rw [if_neg (by omega)]) (fun _ _ _ _ => rfl) w0 hn) fun s2 g => ?_
  refine OK_bind (c_appendAt (a := 1) g.1 (by omega) g.2.1 g.2.2 w1 hn) fun s3 g => ?_
  refine OK_bind (c_appendAt (a := 2) g.1 (by omega) g.2.1 g.2.2 w2 hn) fun s4 g => ?_
  refine OK_bind (c_appendAt (a := 3) g.1 (by omega) g.2.1 g.2.2 w3 hn) fun s5 g => ?_
  refine OK_bind (c_appendAt (a := 4) g.1 (by omega) g.2.1 g.2.2 w4 hn) fun s6 g => ?_
  exact OK_some g
theorem c_truncate {σ : xS} {L p : Nat} (f1 : σ 0 1 = (L : Int)) (hp : p ≤ L) (hL : L ≤ 1600) : m_X12_truncate (p : Int) σ = some (1, xput σ 0 1 (p : Int)) := by
  unfold m_X12_truncate
  rw [xj_eq, f1, zI_of (n := (p : Int)) (by omega) (by omega), zI_of (n := (L : Int)) (by omega) (by omega), if_neg (by omega), if_pos (by omega), xlet_eq]
