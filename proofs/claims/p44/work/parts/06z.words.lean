/-! rows over the constants of the launch: the words, their texts, the tables over them; a constant object as a result -/
def wV (E : xE) (i : Int) : Value := if i = -1 then .null else .ref (E.2.1.2.2 0 i.toNat)
def cRE (E : xE) (a b : Nat) : Value := .ref (E.2.1.2.2 a b)
abbrev cR (X : xX) (a b : Nat) : Value := cRE (xXE X) a b
def xwd {ρ : Type} (i : Int) (o : Option ρ) : Option ρ := if -1 ≤ i ∧ i < 24 then o else none
def xrn {ρ : Type} (i : Int) (o : Option ρ) : Option ρ := if 0 ≤ zI i ∧ zI i < 128 then o else none
def xcki {ρ : Type} (i n : Int) (o : Option ρ) : Option ρ := if 0 ≤ i ∧ i < n then o else none
def sLen (k : Nat) : Int := ((lenJS.getD k 0 : Nat) : Int)
def sByt (k j : Nat) : Int := ((bytJS.getD k []).getD j 0).toInt
def xNR (u : Value) : Prop := u = .null ∨ ∃ t : Nat, u = .ref t
def xrW (E : xE) (o : Option Int) (σ : xS) : Option (Option Value × xS) := o.map (fun v => (some (wV E v), σ))
def xrU (o : Option Unit) (σ : xS) : Option (Option Value × xS) := o.map (fun _ => (none, σ))
def xrP (a : Nat) (o : Option xS) : Option (Option Value × xS) := o.map (fun q => (some (.ref a), q))
theorem w_nn {v : Int} (h : 0 ≤ v ∧ v < 24) : -1 ≤ v ∧ v < 24 := ⟨by omega, h.2⟩
theorem w_ne {v : Int} (h : -1 ≤ v ∧ v < 24) (n : ¬ v = -1) : 0 ≤ v ∧ v < 24 := ⟨by omega, h.2⟩
theorem w_ix {v : Int} (h : 0 ≤ v ∧ v < 24) : v.toNat < 24 := by omega
theorem wV_nn {E : xE} {v : Int} (h : 0 ≤ v ∧ v < 24) : wV E v = .ref (E.2.1.2.2 0 v.toNat) := by
  unfold wV
  rw [if_neg (by omega)]
theorem wV_rf (E : xE) (v : Int) : wV E v = va_rf (if v = -1 then none else some (E.2.1.2.2 0 v.toNat)) := by
  unfold wV
  split <;> rfl
theorem nar_all : ∀ n : Fin 128, narrow .char (.int (Int32.ofInt (n.val : Int))) = .int (Int32.ofInt (n.val : Int)) ∧ narrow .byte (.int (Int32.ofInt (n.val : Int))) = .int (Int32.ofInt (n.val : Int)) := by decide +kernel
theorem nar_v {v : Int} (h : 0 ≤ zI v ∧ zI v < 128) : ∃ n : Fin 128, Int32.ofInt v = Int32.ofInt (n.val : Int) := by
  refine ⟨⟨(zI v).toNat, by omega⟩, ?_⟩
  rw [← ofI_nI v]
  congr 1
  show zI v = ((zI v).toNat : Int)
  omega
theorem nar_c {v : Int} (h : 0 ≤ zI v ∧ zI v < 128) : narrow .char (iV v) = iV v := by
  obtain ⟨n, e⟩ := nar_v h
  unfold iV
  rw [e]
  exact (nar_all n).1
theorem nar_b {v : Int} (h : 0 ≤ zI v ∧ zI v < 128) : narrow .byte (iV v) = iV v := by
  obtain ⟨n, e⟩ := nar_v h
  unfold iV
  rw [e]
  exact (nar_all n).2
theorem wdSM : Cond.sameMethod "BakeryNight$Word" "java/lang/Enum" "ordinal" "()I" ∈ GW := gwt3 201 (by decide +kernel) rfl
section XWORDS
variable {ρ : Type} {X : xX} {Qf : ρ → State → Prop} {cc : ByteArray} {own : String} {ret : Option FieldType} {rm : Room} {nL : Nat} {w w' : xW} {σ : xS} {pc idx : Nat} {L : List (Nat × Value)} {st : List Value} {o : Option ρ}
theorem x_wd {y : Int} (k : -1 ≤ y ∧ y < 24 → WO X Qf w σ pc L st o) : WO X Qf w σ pc L st (xwd y o) := by
  intro r h
  unfold xwd at h
  split at h
  · next q => exact k q r h
  · cases h
theorem x_rn {y : Int} (k : 0 ≤ zI y ∧ zI y < 128 → WO X Qf w σ pc L st o) : WO X Qf w σ pc L st (xrn y o) := by
  intro r h
  unfold xrn at h
  split at h
  · next q => exact k q r h
  · cases h
theorem xKWs (C : xCx X cc own ret rm nL) : KW (xXE X).2.1.2.2 (xA (xXE X)) (xXs X) (xXs X).heap := C.2.2.2.2.2.2.2.2.2.2.2.2.2.1.1
theorem x_gs (C : xCx X cc own ret rm nL) {Cn n dsc : String} {v : Value} (hZ : va_Z Cn n dsc v (xA (xXE X)) (xXs X) (xXs X).heap) (hl : Cond.fieldLink own idx Cn n dsc ∈ GW) (d : decode cc pc = .ok (.getstatic idx, 3)) (k : WO X Qf w σ (pc + 3) L (v :: st) o) : WO X Qf w σ pc L st o :=
  fun r h H locs hR ls hls => va_gets C.1 C.2.1 hZ hR.2.2 C.2.2.2.1 (C.2.2.2.2.1 _ hl) (fun _ h => h) d (k r h H locs hR ls hls)
theorem x_gsWORDS (C : xCx X cc own ret rm nL) (hl : Cond.fieldLink own idx "BakeryNight$Scanner" "WORDS" "[LBakeryNight$Word;" ∈ GW) (d : decode cc pc = .ok (.getstatic idx, 3)) (k : WO X Qf w σ (pc + 3) L (cR X 3 0 :: st) o) : WO X Qf w σ pc L st o := x_gs C (xKWs C).2.2.1 hl d k
theorem x_gsSM (C : xCx X cc own ret rm nL) (hl : Cond.fieldLink own idx "BakeryNight$1" "$SwitchMap$BakeryNight$Word" "[I" ∈ GW) (d : decode cc pc = .ok (.getstatic idx, 3)) (k : WO X Qf w σ (pc + 3) L (cR X 3 1 :: st) o) : WO X Qf w σ pc L st o := x_gs C (xKWs C).2.2.2.2.1 hl d k
theorem x_gsCS (C : xCx X cc own ret rm nL) (hl : Cond.fieldLink own idx "java/lang/String" "COMPACT_STRINGS" "Z" ∈ GW) (d : decode cc pc = .ok (.getstatic idx, 3)) (k : WO X Qf w σ (pc + 3) L (iV 1 :: st) o) : WO X Qf w σ pc L st o := x_gs C (xKWs C).2.2.2.2.2.2.2.1 hl d k
theorem x_gsq (C : xCx X cc own ret rm nL) (hl : Cond.fieldLink own idx "jdk/internal/util/Preconditions" "SIOOBE_FORMATTER" "Ljava/util/function/BiFunction;" ∈ GW) (d : decode cc pc = .ok (.getstatic idx, 3)) (k : ∀ u, xNR u → WO X Qf w σ (pc + 3) L (u :: st) o) : WO X Qf w σ pc L st o := by
  rcases (xKWs C).2.2.2.2.2.2.2.2.1 with hZ | ⟨t, hZ⟩
  · exact x_gs C hZ hl d (k _ (Or.inl rfl))
  · exact x_gs C hZ hl d (k _ (Or.inr ⟨t, rfl⟩))
theorem x_gsW (C : xCx X cc own ret rm nL) (i : Nat) (hi : i < 24) (hl : Cond.fieldLink own idx "BakeryNight$Word" (WNM.getD i "") "LBakeryNight$Word;" ∈ GW) (d : decode cc pc = .ok (.getstatic idx, 3)) (k : WO X Qf w σ (pc + 3) L (.ref ((xXE X).2.1.2.2 0 i) :: st) o) : WO X Qf w σ pc L st o := x_gs C ((xKWs C).1 i hi).1 hl d k
theorem x_null (C : xCx X cc own ret rm nL) (d : decode cc pc = .ok (.aconst_null, 1)) (k : WO X Qf w σ (pc + 1) L (.null :: st) o) : WO X Qf w σ pc L st o :=
  fun r h H locs hR ls hls => lv_null C.1 C.2.1 d (k r h H locs hR ls hls)
theorem x_ldcS (C : xCx X cc own ret rm nL) {tx : String} {i : Nat} (hq : (own, idx, tx, i) ∈ SRl) (d : decode cc pc = .ok (.ldc idx, 2)) (k : WO X Qf w σ (pc + 2) L (cR X 1 i :: st) o) : WO X Qf w σ pc L st o :=
  fun r h H locs hR ls hls => va_ldcS C.1 C.2.1 C.2.2.2.1 ((xKWs C).2.2.2.2.2.2.2.2.2.1 _ hq) d (k r h H locs hR ls hls)
theorem x_getC (C : xCx X cc own ret rm nL) {on n dsc : String} {q : Nat} {v : Value} (hE : va_OF on n dsc v q (xA (xXE X)) (xXs X) (xXs X).heap) {ref : String} (hl : Cond.fieldLink own idx ref n dsc ∈ GW) (hr : ref = on) (d : decode cc pc = .ok (.getfield idx, 3)) (k : WO X Qf w σ (pc + 3) L (v :: st) o) : WO X Qf w σ pc L (.ref q :: st) o := by
  subst hr
  exact fun r h H locs hR ls hls => vk_getf C.1 C.2.1 hE hR.2.2 C.2.2.2.1 (C.2.2.2.2.1 _ hl) (fun _ h => h) d (k r h H locs hR ls hls)
theorem x_wtext (C : xCx X cc own ret rm nL) {v : Int} (hv : 0 ≤ v ∧ v < 24) (hl : Cond.fieldLink own idx "BakeryNight$Word" "text" "Ljava/lang/String;" ∈ GW) (d : decode cc pc = .ok (.getfield idx, 3)) (k : WO X Qf w σ (pc + 3) L (cR X 1 v.toNat :: st) o) : WO X Qf w σ pc L (.ref ((xXE X).2.1.2.2 0 v.toNat) :: st) o :=
  x_getC C ((xKWs C).1 _ (w_ix hv)).2.2.2 hl rfl d k
theorem x_svalue (C : xCx X cc own ret rm nL) {i : Nat} (hi : i < 24) (hl : Cond.fieldLink own idx "java/lang/String" "value" "[B" ∈ GW) (d : decode cc pc = .ok (.getfield idx, 3)) (k : WO X Qf w σ (pc + 3) L (cR X 2 i :: st) o) : WO X Qf w σ pc L (cR X 1 i :: st) o :=
  x_getC C ((xKWs C).2.2.2.2.2.2.1.1 i hi).2.2.1 hl rfl d k
theorem x_scoder (C : xCx X cc own ret rm nL) {i : Nat} (hi : i < 24) (hl : Cond.fieldLink own idx "java/lang/String" "coder" "B" ∈ GW) (d : decode cc pc = .ok (.getfield idx, 3)) (k : WO X Qf w σ (pc + 3) L (iV 0 :: st) o) : WO X Qf w σ pc L (cR X 1 i :: st) o :=
  x_getC C ((xKWs C).2.2.2.2.2.2.1.1 i hi).2.1 hl rfl d k
theorem x_alenWS (C : xCx X cc own ret rm nL) (d : decode cc pc = .ok (.arraylength, 1)) (k : WO X Qf w σ (pc + 1) L (iV 24 :: st) o) : WO X Qf w σ pc L (cR X 3 0 :: st) o :=
  fun r h H locs hR ls hls => va_tlen C.1 C.2.1 (xKWs C).2.2.2.1 hR.2.2 (v := Int32.ofInt 24) rfl d (k r h H locs hR ls hls)
theorem x_alenB (C : xCx X cc own ret rm nL) {i : Nat} (hi : i < 24) (d : decode cc pc = .ok (.arraylength, 1)) (k : WO X Qf w σ (pc + 1) L (iV (sLen i) :: st) o) : WO X Qf w σ pc L (cR X 2 i :: st) o :=
  fun r h H locs hR ls hls => va_tlen C.1 C.2.1 ((xKWs C).2.2.2.2.2.2.1.1 i hi).2.2.2 hR.2.2 (v := Int32.ofInt (sLen i)) (ofN _) d (k r h H locs hR ls hls)
theorem x_aldWS (C : xCx X cc own ret rm nL) {i i' : Int} (hi' : zI i = i') (d : decode cc pc = .ok (.aaload, 1)) (kk : 0 ≤ i' ∧ i' < 24 → WO X Qf w σ (pc + 1) L (.ref ((xXE X).2.1.2.2 0 i'.toNat) :: st) o) : WO X Qf w σ pc L (iV i :: cR X 3 0 :: st) (xck i' 24 o) := by
  subst hi'
  exact x_ck fun hi r h H locs hR ls hls => vb_tq C.1 C.2.1 (xKWs C).2.2.2.1 hR.2.2 (xin hi) rfl d (kk hi r h H locs hR ls hls)
theorem x_aldSM (C : xCx X cc own ret rm nL) {i i' : Int} (hi' : zI i = i') (d : decode cc pc = .ok (.iaload, 1)) (kk : 0 ≤ i' ∧ i' < 24 → WO X Qf w σ (pc + 1) L (iV (SWT.getD i'.toNat 0) :: st) o) : WO X Qf w σ pc L (iV i :: cR X 3 1 :: st) (xck i' 24 o) := by
  subst hi'
  exact x_ck fun hi r h H locs hR ls hls => va_ti C.1 C.2.1 (xKWs C).2.2.2.2.2.1 hR.2.2 (xin hi) rfl d (kk hi r h H locs hR ls hls)
theorem x_aldB (C : xCx X cc own ret rm nL) {s : Nat} (hs : s < 24) {i i' : Int} (hi' : zI i = i') (d : decode cc pc = .ok (.baload, 1)) (kk : 0 ≤ i' ∧ i' < sLen s → WO X Qf w σ (pc + 1) L (iV (sByt s i'.toNat) :: st) o) : WO X Qf w σ pc L (iV i :: cR X 2 s :: st) (xcki i' (sLen s) o) := by
  subst hi'
  intro r h
  unfold xcki at h
  split at h
  · next hi =>
    intro H locs hR ls hls
    have k := kk hi r h H locs hR ls hls
    unfold sByt iV at k
    rw [Int32.ofInt_toInt] at k
    exact va_tb C.1 C.2.1 ((xKWs C).2.2.2.2.2.2.1.1 s hs).2.2.2 hR.2.2 (xin hi) rfl d k
  · cases h
theorem x_ifnullW (C : xCx X cc own ret rm nL) {v : Int} (_ : -1 ≤ v ∧ v < 24) (tgt : Nat) {off : Int} (d : decode cc pc = .ok (.ifnull off, 3)) (ht : (pc : Int) + off = (tgt : Int)) (kt : v = -1 → WO X Qf w σ tgt L st o) (kf : ¬ v = -1 → WO X Qf w σ (pc + 3) L st o) : WO X Qf w σ pc L (wV (xXE X) v :: st) o := by
  unfold wV
  by_cases q : v = -1
  · rw [if_pos q]
    exact fun r h H locs hR ls hls => lv_ifnullN C.1 C.2.1 d ht (kt q r h H locs hR ls hls)
  · rw [if_neg q]
    exact fun r h H locs hR ls hls => lv_ifnull C.1 C.2.1 d (kf q r h H locs hR ls hls)
theorem x_ifnonnullW (C : xCx X cc own ret rm nL) {v : Int} (_ : -1 ≤ v ∧ v < 24) (tgt : Nat) {off : Int} (d : decode cc pc = .ok (.ifnonnull off, 3)) (ht : (pc : Int) + off = (tgt : Int)) (kt : ¬ v = -1 → WO X Qf w σ tgt L st o) (kf : v = -1 → WO X Qf w σ (pc + 3) L st o) : WO X Qf w σ pc L (wV (xXE X) v :: st) o := by
  unfold wV
  by_cases q : v = -1
  · rw [if_pos q]
    exact fun r h H locs hR ls hls => lv_ifnonnullN C.1 C.2.1 d (kf q r h H locs hR ls hls)
  · rw [if_neg q]
    exact fun r h H locs hR ls hls => lv_ifnonnull C.1 C.2.1 d ht (kt q r h H locs hR ls hls)
theorem wV_inj (C : xCx X cc own ret rm nL) {a b : Int} (ha : -1 ≤ a ∧ a < 24) (hb : -1 ≤ b ∧ b < 24) : (if a = -1 then none else some ((xXE X).2.1.2.2 0 a.toNat)) = (if b = -1 then none else some ((xXE X).2.1.2.2 0 b.toNat)) ↔ a = b := by
  constructor
  · intro h
    by_cases p : a = -1 <;> by_cases q : b = -1
    · rw [p, q]
    · rw [if_pos p, if_neg q] at h; cases h
    · rw [if_neg p, if_pos q] at h; cases h
    · rw [if_neg p, if_neg q] at h
      have := (xKWs C).2.1 a.toNat b.toNat (by omega) (by omega) (Option.some.inj h)
      omega
  · intro h
    rw [h]
theorem x_acmpW_eq (C : xCx X cc own ret rm nL) {a b : Int} (ha : -1 ≤ a ∧ a < 24) (hb : 0 ≤ b ∧ b < 24) (tgt : Nat) {off : Int} (d : decode cc pc = .ok (.if_acmp .eq off, 3)) (ht : (pc : Int) + off = (tgt : Int)) (kt : a = b → WO X Qf w σ tgt L st o) (kf : ¬ a = b → WO X Qf w σ (pc + 3) L st o) : WO X Qf w σ pc L (.ref ((xXE X).2.1.2.2 0 b.toNat) :: wV (xXE X) a :: st) o := by
  rw [← wV_nn hb, wV_rf, wV_rf]
  have hb := w_nn hb
  exact fun r h H locs hR ls hls => lv_acmp_eq C.1 C.2.1 d ht (fun e => kt ((wV_inj C ha hb).mp e) r h H locs hR ls hls) (fun e => kf (fun z => e ((wV_inj C ha hb).mpr z)) r h H locs hR ls hls)
theorem x_acmpW_ne (C : xCx X cc own ret rm nL) {a b : Int} (ha : -1 ≤ a ∧ a < 24) (hb : 0 ≤ b ∧ b < 24) (tgt : Nat) {off : Int} (d : decode cc pc = .ok (.if_acmp .ne off, 3)) (ht : (pc : Int) + off = (tgt : Int)) (kt : ¬ a = b → WO X Qf w σ tgt L st o) (kf : a = b → WO X Qf w σ (pc + 3) L st o) : WO X Qf w σ pc L (.ref ((xXE X).2.1.2.2 0 b.toNat) :: wV (xXE X) a :: st) o := by
  rw [← wV_nn hb, wV_rf, wV_rf]
  have hb := w_nn hb
  exact fun r h H locs hR ls hls => lv_acmp_ne C.1 C.2.1 d ht (fun e => kt (fun z => e ((wV_inj C ha hb).mpr z)) r h H locs hR ls hls) (fun e => kf ((wV_inj C ha hb).mp e) r h H locs hR ls hls)
theorem x_nret (C : xCx X cc own ret rm nL) {v : Int} {ty : FieldType} (hr : ret = some ty) (hn : narrow ty (iV v) = iV v) (d : decode cc pc = .ok (.ireturn, 1)) : WO X (xQf X w') w' σ pc L [iV v] (some (some (iV v), σ)) := by
  intro r h H locs hR ls hl
  cases h
  exact W.zret C.1 C.2.1 (C.2.2.2.2.2.2.2.2.1.trans hr) hn (xQ_end C hR) hR.2.2.2.2 d C.2.2.2.2.2.2.1
theorem x_nretQ (C : xCx X cc own ret rm nL) {v : Int} {r : ρ} {ty : FieldType} (hQ : Qf r = xQf X w' (some (iV v), σ)) (hr : ret = some ty) (hn : narrow ty (iV v) = iV v) (d : decode cc pc = .ok (.ireturn, 1)) : WO X Qf w' σ pc L [iV v] (some r) := by
  intro r' h H locs hR ls hl
  cases h
  rw [hQ]
  exact x_nret C hr hn d _ rfl H locs hR ls hl
theorem x_oret (C : xCx X cc own ret rm nL) {v : Value} {n : String} (hr : ret = some (.object n)) (hv : v = .null ∨ ∃ a, v = .ref a) (d : decode cc pc = .ok (.areturn, 1)) : WO X (xQf X w') w' σ pc L [v] (some (some v, σ)) := by
  intro r h H locs hR ls hl
  cases h
  exact W.aret C.1 C.2.1 (C.2.2.2.2.2.2.2.2.1.trans hr) (Or.inl ⟨_, rfl⟩) hv (xQ_end C hR) hR.2.2.2.2 d C.2.2.2.2.2.2.1
theorem x_wretQ (C : xCx X cc own ret rm nL) {v : Int} {r : ρ} {n : String} (hQ : Qf r = xQf X w' (some (wV (xXE X) v), σ)) (hr : ret = some (.object n)) (hv : 0 ≤ v ∧ v < 24) (d : decode cc pc = .ok (.areturn, 1)) : WO X Qf w' σ pc L [.ref ((xXE X).2.1.2.2 0 v.toNat)] (some r) := by
  intro r' h H locs hR ls hl
  cases h
  rw [hQ, wV_nn hv]
  exact x_oret C hr (Or.inr ⟨_, rfl⟩) d _ rfl H locs hR ls hl
theorem x_nulretQ (C : xCx X cc own ret rm nL) {r : ρ} {n : String} (hQ : Qf r = xQf X w' (some (wV (xXE X) (-1)), σ)) (hr : ret = some (.object n)) (d : decode cc pc = .ok (.areturn, 1)) : WO X Qf w' σ pc L [.null] (some r) := by
  intro r' h H locs hR ls hl
  cases h
  rw [hQ]
  exact x_oret C hr (Or.inl rfl) d _ rfl H locs hR ls hl
theorem x_wsplit {v : Int} (hv : -1 ≤ v ∧ v < 24) (k0 : v = -1 → WO X Qf w σ pc L (.null :: st) o) (k1 : ¬ v = -1 → WO X Qf w σ pc L (.ref ((xXE X).2.1.2.2 0 v.toNat) :: st) o) : WO X Qf w σ pc L (wV (xXE X) v :: st) o := by
  by_cases q : v = -1
  · subst q
    exact k0 rfl
  · rw [wV_nn (w_ne hv q)]
    exact k1 q
theorem x_ifnullN (C : xCx X cc own ret rm nL) (tgt : Nat) {off : Int} (d : decode cc pc = .ok (.ifnull off, 3)) (ht : (pc : Int) + off = (tgt : Int)) (k : WO X Qf w σ tgt L st o) : WO X Qf w σ pc L (.null :: st) o := fun r h H locs hR ls hls => lv_ifnullN C.1 C.2.1 d ht (k r h H locs hR ls hls)
theorem x_ifnullR (C : xCx X cc own ret rm nL) {a : Nat} {off : Int} (d : decode cc pc = .ok (.ifnull off, 3)) (k : WO X Qf w σ (pc + 3) L st o) : WO X Qf w σ pc L (.ref a :: st) o := fun r h H locs hR ls hls => lv_ifnull C.1 C.2.1 d (k r h H locs hR ls hls)
theorem x_ifnonnullN (C : xCx X cc own ret rm nL) {off : Int} (d : decode cc pc = .ok (.ifnonnull off, 3)) (k : WO X Qf w σ (pc + 3) L st o) : WO X Qf w σ pc L (.null :: st) o := fun r h H locs hR ls hls => lv_ifnonnullN C.1 C.2.1 d (k r h H locs hR ls hls)
theorem x_ifnonnullR (C : xCx X cc own ret rm nL) (tgt : Nat) {a : Nat} {off : Int} (d : decode cc pc = .ok (.ifnonnull off, 3)) (ht : (pc : Int) + off = (tgt : Int)) (k : WO X Qf w σ tgt L st o) : WO X Qf w σ pc L (.ref a :: st) o := fun r h H locs hR ls hls => lv_ifnonnull C.1 C.2.1 d ht (k r h H locs hR ls hls)
theorem x_pretQ (C : xCx X cc own ret rm nL) {a : Nat} {r : ρ} {n : String} (hQ : Qf r = xQf X w' (some (.ref a), σ)) (hr : ret = some (.object n)) (d : decode cc pc = .ok (.areturn, 1)) : WO X Qf w' σ pc L [.ref a] (some r) := by
  intro r' h H locs hR ls hl
  cases h
  rw [hQ]
  exact x_oret C hr (Or.inr ⟨_, rfl⟩) d _ rfl H locs hR ls hl
theorem kW {o1 : Option Int} {f : Int → Option ρ} (k : ∀ v, WO X Qf w' σ pc L (wV (xXE X) v :: st) (f v)) : xKK X Qf w' pc L st (xrW (xXE X) o1 σ) (o1.bind f) := by
  intro r0 h
  cases o1 with
  | none => cases h
  | some v => exact ⟨_, rfl, k v r0 h⟩
theorem kR {a : Nat} {o1 : Option xS} {f : xS → Option ρ} (k : ∀ τ, WO X Qf w' τ pc L (.ref a :: st) (f τ)) : xKK X Qf w' pc L st (xrP a o1) (o1.bind f) := by
  intro r0 h
  cases o1 with
  | none => cases h
  | some v => exact ⟨_, rfl, k v r0 h⟩
theorem kU {o1 : Option Unit} {f : Unit → Option ρ} (k : ∀ u, WO X Qf w' σ pc L st (f u)) : xKK X Qf w' pc L st (xrU o1 σ) (o1.bind f) := by
  intro r0 h
  cases o1 with
  | none => cases h
  | some v => exact ⟨_, rfl, k v r0 h⟩
theorem x_aload_nN (C : xCx X cc own ret rm nL) {n : Fin 4} {i : Nat} (q : Nat) (d : decode cc pc = .ok (.aload_n n, 1)) (hi : (n : Nat) = i) (hq : L[q]? = some (i, .null)) (k : WO X Qf w σ (pc + 1) L (.null :: st) o) : WO X Qf w σ pc L st o :=
  fun r h H locs hR ls hl => lv_aload_nN C.1 C.2.1 d hi (lv_at hl q hq) (k r h H locs hR ls hl)
theorem x_aloadN (C : xCx X cc own ret rm nL) {i : Nat} (q : Nat) (d : decode cc pc = .ok (.aload i, 2)) (hq : L[q]? = some (i, .null)) (k : WO X Qf w σ (pc + 2) L (.null :: st) o) : WO X Qf w σ pc L st o :=
  fun r h H locs hR ls hl => lv_aloadN C.1 C.2.1 d (lv_at hl q hq) (k r h H locs hR ls hl)
theorem x_astore_nN (C : xCx X cc own ret rm nL) {n : Fin 4} {i : Nat} {L' : List (Nat × Value)} (d : decode cc pc = .ok (.astore_n n, 1)) (hi : (n : Nat) = i) (hn : i < nL) (hl' : (i, Value.null) :: L.filter (fun q : Nat × Value => !(q.1 == i) && !(q.1 + 1 == i && q.2.category == 2)) = L') (k : WO X Qf w σ (pc + 1) L' st o) : WO X Qf w σ pc L (Value.null :: st) o :=
  fun r h H locs hR ls hl => lv_astore_nN C.1 C.2.1 d hi hl (by rw [C.2.2.2.2.2.2.2.2.2.2.1]; exact hn) hl' (fun ls' hls' => k r h H locs hR ls' hls')
theorem x_astoreN (C : xCx X cc own ret rm nL) {i : Nat} {L' : List (Nat × Value)} (d : decode cc pc = .ok (.astore i, 2)) (hn : i < nL) (hl' : (i, Value.null) :: L.filter (fun q : Nat × Value => !(q.1 == i) && !(q.1 + 1 == i && q.2.category == 2)) = L') (k : WO X Qf w σ (pc + 2) L' st o) : WO X Qf w σ pc L (Value.null :: st) o :=
  fun r h H locs hR ls hl => lv_astoreN C.1 C.2.1 d hl (by rw [C.2.2.2.2.2.2.2.2.2.2.1]; exact hn) hl' (fun ls' hls' => k r h H locs hR ls' hls')
section
variable {y : MethodName} {b' : ByteArray} {nL' n : Nat} {ret' : Option FieldType} {rm' : Room} {As : List Value} {res : Option (Option Value × xS)}
/-- a method of one of the texts -/
theorem x_callVs (C : xCx X cc own ret rm nL) {i : Nat} (hM : xMet (xXl X) (xXE X) y b' nL' ret' rm' (cR X 1 i :: As) w w' σ res) (m : xMth y b' nL' ret' n) (v : xVir y) (hl : Cond.methodLink own idx y ∈ GW) (hi : i < 24) (hn : As.length = n) (hroom : rm'.cells = 0 ∧ rm'.slots = 0 ∧ rm'.frames + 1 ≤ rm.frames ∧ 8 + (nL' + 11) + rm'.locals ≤ rm.locals) {st0 : List Value} (hst : st0 = As.reverse ++ cR X 1 i :: st) (hcat : (st.map fun v => v.category).sum ≤ 8) (d : decode cc pc = .ok (.invokevirtual idx, 3))
    (kk : xKK X Qf w' (pc + 3) L st res o) (hy : y.cls = "java/lang/String" := by rfl) : WO X Qf w σ pc L st0 o := by
  intro r0 h H locs hR ls hls
  obtain ⟨r, hres, kk⟩ := kk r0 h
  have hR' : xXR X = rm := C.2.2.2.2.2.2.2.2.2.1
  obtain ⟨hrc, hrs, hf1, hf2⟩ := hroom
  have hf := C.2.2.2.2.2.2.2.2.2.2.2.1
  have hrv := vk_recv (xKWs C).2.2.2.2.2.2.1 hi hR.2.2
  rw [← hy] at hrv
  refine x_ran C hR hls h (r := r) (va_runV (n := n) (mc := rm'.cells) (ms := rm'.slots) (rest := st) ⟨C.1, C.2.1, C.2.2.1, C.2.2.2.1, C.2.2.2.2.1⟩ (hM r hres) (by
      rw [hR']
      exact cwV n C.2.2.2.2.1 (GW_in (fun w hw => by
        unfold wsV at hw
        rcases List.mem_append.mp hw with hw | hw
        · simp only [List.mem_cons, List.not_mem_nil, or_false] at hw
          rcases hw with rfl | rfl | rfl | rfl
          · exact hl
          · exact v.1
          · exact v.2
          · exact m.2.1
        · exact GW_cons m.1 w hw)) rfl rfl rfl ⟨rfl, m.2.2⟩ ⟨hf1, hf2⟩)
    ⟨xPre_blind, hrv, fun U hU hW => ⟨rfl, xPre_of C hR U hU hW⟩⟩ rfl hn (hls.1.trans C.2.2.2.2.2.2.2.2.2.2.1) hst (lv_room hcat) d (by rw [hR', hrc, hrs]; exact hf)) (fun H1 locs1 hR1 => ?_)
  have := kk H1 locs1 hR1 ls hls
  rw [hrc, hrs]
  exact this
end
/-- ordinal() of a word: its walk, its call -/
theorem ct_ordinal (l : Launch) (E : xE) (v : Int) (σ : xS) (hv : 0 ≤ v ∧ v < 24) : xMet l E yJx29ce0_ordinal_8abf5 cJx29ce0_ordinal_8abf5 1 (some .int) { frames := 0, cells := 0, slots := 0, locals := 0 } [.ref (E.2.1.2.2 0 v.toNat)] WW WW σ (some (some (iV v), σ)) := by
  refine xMet.of0 (by decide) (Nat.le_of_ble_eq_true rfl) rfl rfl (fun X hE C => ?_)
  subst hE
  refine x_aload_n C 0 dJx29ce0_ordinal_8abf5_0 rfl rfl ?_
  refine x_getC C ((xKWs C).1 _ (w_ix hv)).2.2.1 wd1587 rfl dJx29ce0_ordinal_8abf5_1 ?_
  have e : Int32.ofNat v.toNat = Int32.ofInt v := by
    rw [ofN]
    congr 1
    omega
  rw [e]
  exact x_iretQ C rfl rfl dJx29ce0_ordinal_8abf5_4
theorem x_ordinal (C : xCx X cc own ret rm nL) {v : Int} (hv : 0 ≤ v ∧ v < 24) (hl : Cond.methodLink own idx (⟨"BakeryNight$Word", "ordinal", "()I"⟩ : MethodName) ∈ GW) (hf1 : 0 + 1 ≤ rm.frames) (hf2 : 8 + (1 + 11) + 0 ≤ rm.locals) (hcat : (st.map fun v => v.category).sum ≤ 8) (d : decode cc pc = .ok (.invokevirtual idx, 3)) (k : WO X Qf WW σ (pc + 3) L (iV v :: st) o) : WO X Qf WW σ pc L (.ref ((xXE X).2.1.2.2 0 v.toNat) :: st) o := by
  intro r0 h H locs hR ls hls
  have hR' : xXR X = rm := C.2.2.2.2.2.2.2.2.2.1
  have hf := C.2.2.2.2.2.2.2.2.2.2.2.1
  have hrv : ∃ cell : Cell, H[(xXE X).2.1.2.2 0 v.toNat]? = some cell ∧ cell.vm.isStatics = false ∧ (xXs X).vm.findClass "BakeryNight$Word" = some cell.cls := by
    obtain ⟨cell, h1, h2, h3, -⟩ := ((xKWs C).1 _ (w_ix hv)).2.1.kept hR.2.2.2.1
    exact ⟨cell, h1, h2, h3⟩
  have hws : ∀ q ∈ va_wsU own idx "BakeryNight$Word" "java/lang/Enum" ⟨"BakeryNight$Word", "ordinal", "()I"⟩ yJx29ce0_ordinal_8abf5 (Cond.code yJx29ce0_ordinal_8abf5 cJx29ce0_ordinal_8abf5 1 (some .int) :: GW), q ∈ GW := by
    intro q hq
    unfold va_wsU at hq
    rcases List.mem_append.mp hq with hq | hq
    · simp only [List.mem_cons, List.not_mem_nil, or_false] at hq
      rcases hq with rfl | rfl | rfl | rfl | rfl
      · exact hl
      · exact wdSM
      · exact wd971
      · exact wd972
      · exact wd73
    · exact GW_cons wd973 q hq
  exact x_ran C hR hls h (r := (some (iV v), σ)) (va_runU (n := 0) (mc := 0) (ms := 0) (rest := st) (As := []) ⟨C.1, C.2.1, C.2.2.1, C.2.2.2.1, C.2.2.2.2.1⟩ (ct_ordinal _ _ v σ hv _ rfl) (by
      rw [hR']
      exact va_cwU 0 C.2.2.2.2.1 (GW_in hws) rfl rfl rfl rfl ⟨by decide, by decide, rfl⟩ ⟨hf1, hf2⟩)
    ⟨xPre_blind, hrv, fun U hU hW => ⟨rfl, xPre_of C hR U hU hW⟩⟩ rfl rfl (hls.1.trans C.2.2.2.2.2.2.2.2.2.2.1) rfl (lv_room hcat) d (by rw [hR']; exact hf)) (fun H1 locs1 hR1 => k r0 h H1 locs1 hR1 ls hls)
end XWORDS
