section XMORE
variable {ρ : Type} {X : xX} {Qf : ρ → State → Prop} {cc : ByteArray} {own : String} {ret : Option FieldType} {rm : Room} {nL : Nat} {w w' : xW} {σ : xS} {pc : Nat} {L : List (Nat × Value)} {st : List Value} {o : Option ρ}
theorem x_tree (c : Nat) (rest : List Value) {f : Int → Option ρ} {t : Int} (hK : ∀ v, WO X Qf w σ c L (iV v :: rest) (f v)) (hb : (∀ v, v = t → WO X Qf w σ c L (iV v :: rest) (xlet t f)) → WO X Qf w σ pc L st (xlet t f)) : WO X Qf w σ pc L st (xlet t f) :=
  hb fun v hv => by
    subst hv
    exact hK v
theorem x_leafR {Qf : Int → State → Prop} {v t : Int} (e : t = v) (k : WO X Qf w σ pc L st (some v)) : WO X Qf w σ pc L st (some t) := by
  subst e
  exact k
theorem x_iretQ (C : xCx X cc own ret rm nL) {v : Int} {r : ρ} (hQ : Qf r = xQf X w' (some (iV v), σ)) (hr : ret = some .int) (d : decode cc pc = .ok (.ireturn, 1)) : WO X Qf w' σ pc L [iV v] (some r) := by
  intro r' h H locs hR ls hl
  cases h
  rw [hQ]
  exact x_iret C hr d _ rfl H locs hR ls hl
theorem x_zretQ (C : xCx X cc own ret rm nL) {v : Int} {r : ρ} (hQ : Qf r = xQf X w' (some (iV v), σ)) (hr : ret = some .boolean) (hv : v = 0 ∨ v = 1) (d : decode cc pc = .ok (.ireturn, 1)) : WO X Qf w' σ pc L [iV v] (some r) := by
  intro r' h H locs hR ls hl
  cases h
  rw [hQ]
  exact x_zret C hr d _ (by unfold xbo; rw [if_pos hv]) H locs hR ls hl
theorem x_lretQ (C : xCx X cc own ret rm nL) {v : Int} {r : ρ} (hQ : Qf r = xQf X w' (some (jV v), σ)) (hr : ret = some .long) (d : decode cc pc = .ok (.lreturn, 1)) : WO X Qf w' σ pc L [jV v] (some r) := by
  intro r' h H locs hR ls hl
  cases h
  rw [hQ]
  exact x_lret C hr d _ rfl H locs hR ls hl
theorem x_vretQ (C : xCx X cc own ret rm nL) {r : ρ} (hQ : Qf r = xQf X w' (none, σ)) (hr : ret = none) (d : decode cc pc = .ok (.return_, 1)) : WO X Qf w' σ pc L [] (some r) := by
  intro r' h H locs hR ls hl
  cases h
  rw [hQ]
  exact x_vret C hr d _ rfl H locs hR ls hl
theorem xMap {ρ' : Type} (g : ρ' → Option Value × xS) {m : Option ρ'} (h : WO X (fun q => xQf X w' (g q)) w σ pc L st m) : WO X (xQf X w') w σ pc L st (m.map g) := by
  intro r hr H locs hR ls hl
  cases m with
  | none => cases hr
  | some q =>
    cases hr
    exact h q rfl H locs hR ls hl
theorem x_reL {L' : List (Nat × Value)} (e : L = L') (k : WO X Qf w σ pc L' st o) : WO X Qf w σ pc L st o := by
  subst e
  exact k
theorem x_inc (C : xCx X cc own ret rm nL) {i : Nat} {n x : Int} {f : Int → Option ρ} (q : Nat) (d : decode cc pc = .ok (.iinc i n, 3)) (hq : L[q]? = some (i, iV x)) (hn : i < nL) (c : Int) (hc : n = c) (k : ∀ v, WO X Qf w σ (pc + 3) ((i, iV v) :: L.filter (fun q : Nat × Value => !(q.1 == i) && !(q.1 + 1 == i && q.2.category == 2))) st (f v)) : WO X Qf w σ pc L st (xlet (x + c) f) := by
  subst hc
  exact x_iinc C q (x + n) d hq rfl hn rfl (k _)
theorem xV_r {z k j a : Nat} {t : FieldType} (h : w.2.2 k j (σ k j) = some a) (ht : (match t with | .object _ => true | .array _ => true | _ => false) = true) : xV z w σ t k j = .ref (xqa z a) := by
  cases t <;> first | (show va_rf _ = _; rw [h]; rfl) | exact absurd ht Bool.false_ne_true
theorem xnb {v : Int} (h : v = 0 ∨ v = 1) : narrow .boolean (iV v) = iV v := by rcases h with rfl | rfl <;> rfl
theorem xfb {v : Int} (h : v = 0 ∨ v = 1) : fits .boolean (iV v) = true := by rcases h with rfl | rfl <;> rfl
theorem zI_bo {v : Int} (h : v = 0 ∨ v = 1) : zI v = v := by rcases h with rfl | rfl <;> decide
theorem x_tabIn (C : xCx X cc own ret rm nL) {dflt lo hi off : Int} {offs : Array Int} {len : Nat} {x x' : Int} (hx : zI x = x') (tgt : Nat) (d : decode cc pc = .ok (.tableswitch dflt lo hi offs, len)) {c : Int} (h : x' = c) (h1 : ¬ c < lo) (h2 : ¬ hi < c) (ho : offs[(c - lo).toNat]? = some off) (ht : (pc : Int) + off = (tgt : Int)) (k : WO X Qf w σ tgt L st o) : WO X Qf w σ pc L (iV x :: st) o := by
  subst hx
  subst h
  exact fun r h H locs hR ls hl => lv_tableIn C.1 C.2.1 d h1 h2 ho ht (k r h H locs hR ls hl)
theorem x_tabOut (C : xCx X cc own ret rm nL) {dflt lo hi : Int} {offs : Array Int} {len : Nat} {x x' : Int} (hx : zI x = x') (tgt : Nat) (d : decode cc pc = .ok (.tableswitch dflt lo hi offs, len)) (h : x' < lo ∨ hi < x') (ht : (pc : Int) + dflt = (tgt : Int)) (k : WO X Qf w σ tgt L st o) : WO X Qf w σ pc L (iV x :: st) o := by
  subst hx
  exact fun r hr H locs hR ls hl => lv_tableOut C.1 C.2.1 d h ht (k r hr H locs hR ls hl)
def xcc {ρ : Type} (sp dp n : Int) (n0 n1 : Nat) (o : Option ρ) : Option ρ := if 0 ≤ sp ∧ 0 ≤ dp ∧ 0 ≤ n ∧ sp + n ≤ (n0 : Int) ∧ dp + n ≤ (n1 : Int) then o else none
def xcpy (σ : xS) (a b : Nat) (sp dp n : Int) : xS := fun k i => if k = b then va_cpy (σ a) (σ b) sp.toNat dp.toNat n.toNat i else σ k i
theorem xC_cpy {E : xE} {a b : Nat} {sp dp n : Int} {k' : Nat} (h : k' ≠ b) : xC E w σ k' = xC E w (xcpy σ a b sp dp n) k' := by
  have h1 : (xcpy σ a b sp dp n) k' = σ k' := by
    funext i
    simp [xcpy, h]
  unfold xC
  simp only [h1]
  split <;> try rfl
  congr 2
  apply List.map_congr_left
  intro i _
  unfold xV
  rw [h1]
theorem xRel_cell {E : xE} {σ σ' : xS} {H H1 H0 : Heap} {locs l2 : List Loc} {k : Nat} {e : va_E} (hR : xRel E w σ H0 H locs) (hk : xqi k < w.1) (he : va_at E.1 vwCl (xqa E.2.2 k, e) H1) (hx : e = xC E w σ' k) (ho : ∀ k', k' ≠ k → xC E w σ k' = xC E w σ' k') (z : H1.size = H.size) (oq : ∀ q : Nat, q ≠ xqa E.2.2 k → H1[q]? = H[q]?) (hl : ∀ q ∈ l2, q.base = xqa E.2.2 k) : xRel E w σ' H0 H1 (locs ++ l2) := by
  obtain ⟨hP, hz, h1, h2, h3⟩ := hR
  refine ⟨?_, by rw [z]; exact hz, by rw [z]; exact h1, fun q g1 g2 => ?_, fun q hq => ?_⟩
  · rw [← xws_set hx ho]
    exact hP.set (xws_D _ _ _ hz.1.2) (xws_get hk) he oq
  · rw [oq q (fun e => g2 (by rw [e]; exact xA_of hk hz.1.2))]
    exact h2 q g1 g2
  · rcases List.mem_append.mp hq with g | g
    · exact h3 q g
    · show xA E q.base
      rw [hl q g]
      exact xA_of hk hz.1.2
theorem x_copy (C : xCx X cc own ret rm nL) {index a b n0 n1 : Nat} {sp dp n sp' dp' n' : Int} {f : xS → Option ρ} (A : xAt w a 0 n0) (B : xAt w b 0 n1) (hsp : zI sp = sp') (hdp : zI dp = dp') (hn : zI n = n') (hlink : Cond.methodLink own index arraycopyName ∈ GW) (hnat : Cond.native arraycopyName ∈ GW) (hstat : Cond.static arraycopyName ∈ GW) (hini : Cond.initialized "java/lang/System" ∈ GW)
    (hframes : 1 ≤ rm.frames) (hlocals : (st.map fun v => v.category).sum + (nativeFrameWords "java/lang/System" "arraycopy" 5 + 11) ≤ rm.locals) (d : decode cc pc = .ok (.invokestatic index, 3)) (kk : ∀ τ, WO X Qf w τ (pc + 3) L st (f τ)) : WO X Qf w σ pc L (iV n :: iV dp :: .ref (xqa (xXE X).2.2 b) :: iV sp :: .ref (xqa (xXE X).2.2 a) :: st) (xcc sp' dp' n' n0 n1 (xlet (xcpy σ a b sp' dp' n') f)) := by
  subst hsp
  subst hdp
  subst hn
  intro r h H locs hR ls hl
  unfold xcc at h
  split at h
  · next hc =>
    obtain ⟨h1, h2, h3, h4, h5⟩ := hc
    have hR' : xXR X = rm := C.2.2.2.2.2.2.2.2.2.1
    have ha := (xws_get (E := xXE X) (σ := σ) A.1).trans (by rw [xC_0 A.2])
    have hb := (xws_get (E := xXE X) (σ := σ) B.1).trans (by rw [xC_0 B.2])
    obtain ⟨hK, hP⟩ : xK (xXE X) (xXs X) ∧ va_P (xXE X).1 vwCl (xws (xXE X) w σ) H := ⟨C.2.2.2.2.2.1, hR.1⟩
    intro T hT XX
    have hc0 := hP (xqi a) _ ha
    have hc1 := hP (xqi b) _ hb
    have htt : (xtys (xXE X).2.1.1)[0]? = some ((xXE X).2.1.1 0, FieldType.int) := rfl
    obtain ⟨-, k0, hk0, cm0, hkk0⟩ := (hK.2 0 _ htt).1 n0 (fun j => .int (Int32.ofInt (σ a j)))
    obtain ⟨-, k1, hk1, cm1, hkk1⟩ := (hK.2 0 _ htt).1 n1 (fun j => .int (Int32.ofInt (σ b j)))
    have z1 : ¬ Int32.ofInt sp < 0 := fun q => by rw [i_lt0] at q; omega
    have z2 : ¬ Int32.ofInt dp < 0 := fun q => by rw [i_lt0] at q; omega
    have z3 : ¬ Int32.ofInt n < 0 := fun q => by rw [i_lt0] at q; omega
    have t1 : (Int32.ofInt sp).toInt = zI sp := rfl
    have t2 : (Int32.ofInt dp).toInt = zI dp := rfl
    have t3 : (Int32.ofInt n).toInt = zI n := rfl
    obtain ⟨vm', X', step⟩ := XX.arraycopy C.1 C.2.2.2.1 (C.2.2.2.2.1 _ hlink) (C.2.2.2.2.1 _ hnat) (C.2.2.2.2.1 _ hstat) (C.2.2.2.2.1 _ hini) (srcPos := Int32.ofInt sp) (destPos := Int32.ofInt dp) (n := Int32.ofInt n) (by rw [hT]; exact hc0) (by rw [hT]; exact hc1)
      (fun _ h => by cases h) (fun _ h => by cases h) (fun h => by cases h) (fun h => by cases h) hk0 hk1 hkk0 hkk1 rfl z1 z2 z3
      (by rw [t1, t3]; show ¬ _ > ((arrV _ n0 _).slots.size : Int); rw [arrV_size]; omega)
      (by rw [t2, t3]; show ¬ _ > ((arrV _ n1 _).slots.size : Int); rw [arrV_size]; omega)
      (fun vm₁ _ i hi => by
        have e : (arrV ((xXE X).2.1.1 0) n0 (fun j => .int (Int32.ofInt (σ a j)))).slots.getD ((Int32.ofInt sp).toNatClampNeg + i) .null = .int (Int32.ofInt (σ a ((Int32.ofInt sp).toNatClampNeg + i))) := by
          have h9 : (Int32.ofInt n).toNatClampNeg = (zI n).toNat := rfl
          have h8 : (Int32.ofInt sp).toNatClampNeg = (zI sp).toNat := rfl
          rw [Array.getD_eq_getD_getElem?, arrV_read _ _ (by omega)]
          rfl
        refine ⟨?_, ?_⟩
        · show fits .int ((arrV ((xXE X).2.1.1 0) n0 (fun j => .int (Int32.ofInt (σ a j)))).slots.getD _ _) = true
          rw [e]
          rfl
        · show State.takes _ _ ((arrV ((xXE X).2.1.1 0) n0 (fun j => .int (Int32.ofInt (σ a j)))).slots.getD _ _)
          rw [e]
          exact trivial)
      (g := F0 (xXm X) pc ls (iV n :: iV dp :: .ref (xqa (xXE X).2.2 b) :: iV sp :: .ref (xqa (xXE X).2.2 a) :: st)) rfl (by show ls.size = _; rw [C.2.2.1]; exact hl.1.trans C.2.2.2.2.2.2.2.2.2.2.1) (rest := st) rfl (by rw [C.2.1]; exact d) (by rw [hR']; exact hframes) (by rw [hR']; show 2 * 0 + _ + _ ≤ _; omega)
    have e1 : copied (arrV ((xXE X).2.1.1 0) n0 (fun j => .int (Int32.ofInt (σ a j)))) (arrV ((xXE X).2.1.1 0) n1 (fun j => .int (Int32.ofInt (σ b j)))) (Int32.ofInt sp) (Int32.ofInt dp) (Int32.ofInt n) = arrV ((xXE X).2.1.1 0) n1 (fun j => .int (va_cpy (fun j => Int32.ofInt (σ a j)) (fun j => Int32.ofInt (σ b j)) (zI sp).toNat (zI dp).toNat (zI n).toNat j)) := va_copied (fun z => .int z) _ _ _ _ (by
      have h8 : (Int32.ofInt sp).toNatClampNeg = (zI sp).toNat := rfl
      have h9 : (Int32.ofInt n).toNatClampNeg = (zI n).toNat := rfl
      omega)
    have hl9 : xqa (xXE X).2.2 b < H.size := (Array.getElem?_eq_some_iff.mp hc1).1
    have oq : ∀ c : Cell, ∀ q : Nat, q ≠ xqa (xXE X).2.2 b → (H.setIfInBounds (xqa (xXE X).2.2 b) c)[q]? = H[q]? := fun c q hq => by simp [Array.getElem?_setIfInBounds, Ne.symm hq]
    obtain ⟨t, a1, b1⟩ := kk (xcpy σ a b (zI sp) (zI dp) (zI n)) r h _ _ (xRel_cell hR (k := b) (σ' := xcpy σ a b (zI sp) (zI dp) (zI n)) B.1 (e := .inl ((xXE X).2.1.1 0, n1, .inl (va_cpy (fun j => Int32.ofInt (σ a j)) (fun j => Int32.ofInt (σ b j)) (zI sp).toNat (zI dp).toNat (zI n).toNat)))
      (show (H.setIfInBounds (xqa (xXE X).2.2 b) _)[xqa (xXE X).2.2 b]? = some _ by simp [Array.getElem?_setIfInBounds, hl9]; exact e1) (by
          rw [xC_0 B.2]
          refine congrArg (fun f => (Sum.inl ((xXE X).2.1.1 0, n1, Sum.inl f) : va_E)) (funext fun j => ?_)
          simp only [xcpy, va_cpy, if_true]
          split <;> rfl) (fun k' hk' => xC_cpy hk') (by simp) (oq _) (fun q hq => by
          obtain ⟨z, -, hz⟩ := List.mem_map.mp hq
          rw [← hz])) ls hl _ (by rw [← hT]; rfl) X'
    exact ⟨t, step t a1, b1⟩
  · cases h
theorem x_callSN (C : xCx X cc own ret rm nL) {y : MethodName} {b' : ByteArray} {nL' n idx : Nat} {ret' : Option FieldType} {rm' : Room} {As : List Value} {res : Option (Option Value × xS)} {host : String} (hM : xMet (xXl X) (xXE X) y b' nL' ret' rm' As w w' σ res) (m : xMth y b' nL' ret' n) (v : Cond.static y ∈ GW) (hl : (own, idx, y, host) ∈ NWl) (hn : As.length = n) (hroom : rm'.cells = 0 ∧ rm'.slots = 0 ∧ rm'.frames + 1 ≤ rm.frames ∧ 8 + (nL' + 11) + rm'.locals ≤ rm.locals) {st0 : List Value} (hst : st0 = As.reverse ++ st) (hcat : (st.map fun v => v.category).sum ≤ 8) (d : decode cc pc = .ok (.invokestatic idx, 3))
    (kk : xKK X Qf w' (pc + 3) L st res o) : WO X Qf w σ pc L st0 o := by
  intro r0 h H locs hR ls hls
  obtain ⟨r, hres, kk⟩ := kk r0 h
  have hR' : xXR X = rm := C.2.2.2.2.2.2.2.2.2.1
  obtain ⟨hrc, hrs, hf1, hf2⟩ := hroom
  have hf := C.2.2.2.2.2.2.2.2.2.2.2.1
  refine x_ran C hR hls h (r := r) (va_runSN (n := n) (mc := rm'.cells) (ms := rm'.slots) (rest := st) ⟨C.1, C.2.1, C.2.2.1, C.2.2.2.1, C.2.2.2.2.1⟩ (hM r hres) (by
      rw [hR']
      exact ⟨va_cnB n C.2.2.2.2.1 (GW_in (GW_cons m.1)) rfl rfl rfl (C.2.2.2.2.2.2.2.2.2.2.2.2.1 _ hl) (C.2.2.2.2.1 _ m.2.1) m.2.2 ⟨hf1, hf2⟩, C.2.2.2.2.1 _ v, trivial⟩)
    ⟨xPre_blind, fun U hU hW => ⟨rfl, xPre_of C hR U hU hW⟩⟩ rfl hn (hls.1.trans C.2.2.2.2.2.2.2.2.2.2.1) hst (lv_room hcat) d (by rw [hR', hrc, hrs]; exact hf)) (fun H1 locs1 hR1 => ?_)
  have := kk H1 locs1 hR1 ls hls
  rw [hrc, hrs]
  exact this
/-- a reference that is the buffer's only behind the first call of begin -/
theorem x_gd {y : Int} (k : y ≠ 0 → WO X Qf w σ pc L st o) : WO X Qf w σ pc L st (xnz y o) := by
  intro r h
  unfold xnz at h
  split at h
  · cases h
  · next hne => exact k hne r h
end XMORE
theorem ofN (n : Nat) : Int32.ofNat n = Int32.ofInt (n : Int) := by
  apply Int32.toBitVec_inj.mp
  rfl
def zmin (x y : Int) : Int := if zI y < zI x then y else x
def zmax (x y : Int) : Int := if zI x < zI y then y else x
def zabs (x : Int) : Int := if 0 ≤ zI x then x else 0 - x
section XMATH
variable {ρ : Type} {X : xX} {Qf : ρ → State → Prop} {cc : ByteArray} {own : String} {ret : Option FieldType} {rm : Room} {nL : Nat} {w w' : xW} {σ : xS} {pc idx : Nat} {L : List (Nat × Value)} {st : List Value} {o : Option ρ}
theorem x_mmin (C : xCx X cc own ret rm nL) {x y : Int} (hlink : Cond.methodLink own idx Lib.Math.min.name ∈ GW) (hstat : Cond.static Lib.Math.min.name ∈ GW) (hini : Cond.initialized "java/lang/Math" ∈ GW) (hcode : Cond.code Lib.Math.min.name Lib.Math.min.code 2 (some .int) ∈ GW) (hf : 1 ≤ rm.frames) (hl : (st.map fun v => v.category).sum + 13 ≤ rm.locals) (d : decode cc pc = .ok (.invokestatic idx, 3)) (k : WO X Qf w σ (pc + 3) L (iV (zmin x y) :: st) o) : WO X Qf w σ pc L (iV y :: iV x :: st) o := by
  intro r h H locs hR ls hls
  have hR' : xXR X = rm := C.2.2.2.2.2.2.2.2.2.1
  have hz := C.2.2.2.2.2.2.2.2.2.2.2.1
  have hkk := k r h H locs hR ls hls
  refine va_mmin C.1 C.2.1 (C.2.2.1.trans (hls.1.trans C.2.2.2.2.2.2.2.2.2.2.1).symm) C.2.2.2.1 (C.2.2.2.2.1 _ hlink) (C.2.2.2.2.1 _ hstat) (C.2.2.2.2.1 _ hini) (C.2.2.2.2.1 _ hcode) (by rw [hR']; exact hf) (by rw [hR']; exact hl) (by rw [hR']; exact hz.1) (by rw [hR']; exact hz.2) d ?_
  have e : (if Int32.ofInt y < Int32.ofInt x then Int32.ofInt y else Int32.ofInt x) = Int32.ofInt (zmin x y) := by
    unfold zmin
    by_cases q : zI y < zI x
    · rw [if_pos q, if_pos (i_lt.mpr q)]
    · rw [if_neg q, if_neg (fun z => q (i_lt.mp z))]
  rw [e]
  exact hkk
theorem x_mmax (C : xCx X cc own ret rm nL) {x y : Int} (hlink : Cond.methodLink own idx Lib.Math.max.name ∈ GW) (hstat : Cond.static Lib.Math.max.name ∈ GW) (hini : Cond.initialized "java/lang/Math" ∈ GW) (hcode : Cond.code Lib.Math.max.name Lib.Math.max.code 2 (some .int) ∈ GW) (hf : 1 ≤ rm.frames) (hl : (st.map fun v => v.category).sum + 13 ≤ rm.locals) (d : decode cc pc = .ok (.invokestatic idx, 3)) (k : WO X Qf w σ (pc + 3) L (iV (zmax x y) :: st) o) : WO X Qf w σ pc L (iV y :: iV x :: st) o := by
  intro r h H locs hR ls hls
  have hR' : xXR X = rm := C.2.2.2.2.2.2.2.2.2.1
  have hz := C.2.2.2.2.2.2.2.2.2.2.2.1
  have hkk := k r h H locs hR ls hls
  refine va_mmax C.1 C.2.1 (C.2.2.1.trans (hls.1.trans C.2.2.2.2.2.2.2.2.2.2.1).symm) C.2.2.2.1 (C.2.2.2.2.1 _ hlink) (C.2.2.2.2.1 _ hstat) (C.2.2.2.2.1 _ hini) (C.2.2.2.2.1 _ hcode) (by rw [hR']; exact hf) (by rw [hR']; exact hl) (by rw [hR']; exact hz.1) (by rw [hR']; exact hz.2) d ?_
  have e : (if Int32.ofInt x < Int32.ofInt y then Int32.ofInt y else Int32.ofInt x) = Int32.ofInt (zmax x y) := by
    unfold zmax
    by_cases q : zI x < zI y
    · rw [if_pos q, if_pos (i_lt.mpr q)]
    · rw [if_neg q, if_neg (fun z => q (i_lt.mp z))]
  rw [e]
  exact hkk
theorem x_mabs (C : xCx X cc own ret rm nL) {x : Int} (hlink : Cond.methodLink own idx Lib.Math.abs.name ∈ GW) (hstat : Cond.static Lib.Math.abs.name ∈ GW) (hini : Cond.initialized "java/lang/Math" ∈ GW) (hcode : Cond.code Lib.Math.abs.name Lib.Math.abs.code 1 (some .int) ∈ GW) (hf : 1 ≤ rm.frames) (hl : (st.map fun v => v.category).sum + 13 ≤ rm.locals) (d : decode cc pc = .ok (.invokestatic idx, 3)) (k : WO X Qf w σ (pc + 3) L (iV (zabs x) :: st) o) : WO X Qf w σ pc L (iV x :: st) o := by
  intro r h H locs hR ls hls
  have hR' : xXR X = rm := C.2.2.2.2.2.2.2.2.2.1
  have hz := C.2.2.2.2.2.2.2.2.2.2.2.1
  have hkk := k r h H locs hR ls hls
  refine va_mabs C.1 C.2.1 (C.2.2.1.trans (hls.1.trans C.2.2.2.2.2.2.2.2.2.2.1).symm) C.2.2.2.1 (C.2.2.2.2.1 _ hlink) (C.2.2.2.2.1 _ hstat) (C.2.2.2.2.1 _ hini) (C.2.2.2.2.1 _ hcode) (by rw [hR']; exact hf) (by rw [hR']; exact hl) (by rw [hR']; exact hz.1) (by rw [hR']; exact hz.2) d ?_
  have e : (if 0 ≤ Int32.ofInt x then Int32.ofInt x else 0 - Int32.ofInt x) = Int32.ofInt (zabs x) := by
    unfold zabs
    by_cases q : 0 ≤ zI x
    · rw [if_pos q, if_pos (i_ge0.mpr q)]
    · rw [if_neg q, if_neg (fun z => q (i_ge0.mp z)), Int32.ofInt_sub]
      rfl
  rw [e]
  exact hkk
end XMATH
theorem xV_pI {z : Nat} {w : xW} {σ : xS} {t : FieldType} {k j : Nat} {x : Int} (ht : (match t with | .object _ => false | .array _ => false | .long => false | _ => true) = true) : xV z w (xput σ k j x) t k j = iV x := by
  cases t <;> first | exact absurd ht Bool.false_ne_true | (show Value.int (Int32.ofInt (xput σ k j x k j)) = _; rw [xput_at]; rfl)
theorem nw0 : ("BakeryNight$Bakery", 17, (⟨"BakeryNight$Dough", "<init>", "()V"⟩ : MethodName), "BakeryNight") ∈ NWl := List.mem_of_getElem? (i := 0) rfl
theorem nw1 : ("BakeryNight$Bakery", 24, (⟨"BakeryNight$Oven", "<init>", "()V"⟩ : MethodName), "BakeryNight") ∈ NWl := List.mem_of_getElem? (i := 1) rfl
theorem nw2 : ("BakeryNight$Bakery", 31, (⟨"BakeryNight$Order", "<init>", "()V"⟩ : MethodName), "BakeryNight") ∈ NWl := List.mem_of_getElem? (i := 2) rfl
theorem nw3 : ("BakeryNight$Bakery", 85, (⟨"BakeryNight", "dividedUp", "(II)I"⟩ : MethodName), "BakeryNight") ∈ NWl := List.mem_of_getElem? (i := 3) rfl
theorem nw4 : ("BakeryNight$Night", 181, (⟨"BakeryNight", "dividedUp", "(II)I"⟩ : MethodName), "BakeryNight") ∈ NWl := List.mem_of_getElem? (i := 4) rfl
