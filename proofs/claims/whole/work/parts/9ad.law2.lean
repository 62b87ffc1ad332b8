/-! the law: its cases but those of the throwers -/
/-- the law's locals at the head -/
abbrev lL (X : xX) (b i : Nat) : List (Nat × Value) := [(0, .ref b), (1, .ref (xqa (xXE X).2.2 0)), (2, .ref (xqa (xXE X).2.2 184)), (3, .ref (xqa (xXE X).2.2 215)), (4, iV (i : Int))]
/-- how the law goes on behind a case -/
abbrev LWaft {ρ : Type} (X : xX) (Qf : ρ → State → Prop) (o : Option ρ) (b i k z : Nat) : Prop := ∀ (τ : xS) (k' z' : Nat), k ≤ k' → k' ≤ k + 1 → z ≤ z' → z' ≤ z + 8 → TI τ → WO (xat X k' z') Qf WW τ 1446 (lL X b i) [] o
set_option maxHeartbeats 4000000 in
set_option maxRecDepth 100000 in
theorem lc_feed {ρ : Type} {X : xX} {Qf : ρ → State → Prop} {o : Option ρ} {σ : xS} {b Ln i k z m Lb : Nat} {xs : Nat → Int32} {β : Nat → Int} {B : Nat → Nat → Int} (Cg : xCg X cL_law "BakeryNightLaw" (some .boolean) room_1 7) (hs : lsS X b Ln xs) (hi : i + 6 ≤ Ln) (hk : k ≤ 601024 ∧ z ≤ 7293034) (h : TJ σ β Lb m B)
    (aft : LWaft X Qf o b i k z) : WO (xat X k z) Qf WW σ 220 (lL X b i) [] o := by
  have C := Cg k z hk.1 hk.2
  have hs : lsS (xat X k z) b Ln xs := hs
  have hb1 := i32_bd (xs (i + 1))
  have hb2 := i32_bd (xs (i + 2))
  have hb3 := i32_bd (xs (i + 3))
  have hb4 := i32_bd (xs (i + 4))
  have hb5 := i32_bd (xs (i + 5))
  obtain ⟨v, τ, υ, h1, h2, hT⟩ := KALL_S (r := m_X13_feed 4000000 (xs (i + 1)).toInt (xs (i + 2)).toInt (xs (i + 3)).toInt (xs (i + 4)).toInt (xs (i + 5)).toInt) (q_feed h (Nat.le_refl 4000000))
  refine x_aload_n C 1 dL_law_220 rfl rfl ?_
  refine x_aload_n C 0 dL_law_221 rfl rfl ?_
  refine x_iload C 4 dL_law_222 rfl ?_
  refine x_iconst C (1) dL_law_224 rfl ?_
  refine x_iadd C dL_law_225 ?_
  refine x_sld C hs (i + 1) (by omega) (by omega) dL_law_226 ?_
  refine x_aload_n C 0 dL_law_227 rfl rfl ?_
  refine x_iload C 4 dL_law_228 rfl ?_
  refine x_iconst C (2) dL_law_230 rfl ?_
  refine x_iadd C dL_law_231 ?_
  refine x_sld C hs (i + 2) (by omega) (by omega) dL_law_232 ?_
  refine x_aload_n C 0 dL_law_233 rfl rfl ?_
  refine x_iload C 4 dL_law_234 rfl ?_
  refine x_iconst C (3) dL_law_236 rfl ?_
  refine x_iadd C dL_law_237 ?_
  refine x_sld C hs (i + 3) (by omega) (by omega) dL_law_238 ?_
  refine x_aload_n C 0 dL_law_239 rfl rfl ?_
  refine x_iload C 4 dL_law_240 rfl ?_
  refine x_iconst C (4) dL_law_242 rfl ?_
  refine x_iadd C dL_law_243 ?_
  refine x_sld C hs (i + 4) (by omega) (by omega) dL_law_244 ?_
  refine x_aload_n C 0 dL_law_245 rfl rfl ?_
  refine x_iload C 4 dL_law_246 rfl ?_
  refine x_iconst C (5) dL_law_248 rfl ?_
  refine x_iadd C dL_law_249 ?_
  refine x_sld C hs (i + 5) (by omega) (by omega) dL_law_250 ?_
  refine x_callV C (ct_X12_feed _ _ 4000000 (xs (i + 1)).toInt (xs (i + 2)).toInt (xs (i + 3)).toInt (xs (i + 4)).toInt (xs (i + 5)).toInt σ) mt_X12_feed vr_X12_feed wd712 cls_X12 at_X12 rfl ⟨rfl, rfl, (Nat.le_of_ble_eq_true rfl), (Nat.le_of_ble_eq_true rfl)⟩ rfl (Nat.le_of_ble_eq_true rfl) dL_law_251 (kVal h1 ?_)
  refine x_aload_n C 2 dL_law_254 rfl rfl ?_
  refine x_aload_n C 0 dL_law_255 rfl rfl ?_
  refine x_iload C 4 dL_law_256 rfl ?_
  refine x_iconst C (1) dL_law_258 rfl ?_
  refine x_iadd C dL_law_259 ?_
  refine x_sld C hs (i + 1) (by omega) (by omega) dL_law_260 ?_
  refine x_aload_n C 0 dL_law_261 rfl rfl ?_
  refine x_iload C 4 dL_law_262 rfl ?_
  refine x_iconst C (2) dL_law_264 rfl ?_
  refine x_iadd C dL_law_265 ?_
  refine x_sld C hs (i + 2) (by omega) (by omega) dL_law_266 ?_
  refine x_aload_n C 0 dL_law_267 rfl rfl ?_
  refine x_iload C 4 dL_law_268 rfl ?_
  refine x_iconst C (3) dL_law_270 rfl ?_
  refine x_iadd C dL_law_271 ?_
  refine x_sld C hs (i + 3) (by omega) (by omega) dL_law_272 ?_
  refine x_aload_n C 0 dL_law_273 rfl rfl ?_
  refine x_iload C 4 dL_law_274 rfl ?_
  refine x_iconst C (4) dL_law_276 rfl ?_
  refine x_iadd C dL_law_277 ?_
  refine x_sld C hs (i + 4) (by omega) (by omega) dL_law_278 ?_
  refine x_aload_n C 0 dL_law_279 rfl rfl ?_
  refine x_iload C 4 dL_law_280 rfl ?_
  refine x_iconst C (5) dL_law_282 rfl ?_
  refine x_iadd C dL_law_283 ?_
  refine x_sld C hs (i + 5) (by omega) (by omega) dL_law_284 ?_
  refine x_callV C (ct_X13_feed _ _ 4000000 (xs (i + 1)).toInt (xs (i + 2)).toInt (xs (i + 3)).toInt (xs (i + 4)).toInt (xs (i + 5)).toInt τ) mt_X13_feed vr_X13_feed wd1672 cls_X13 at_X13 rfl ⟨rfl, rfl, (Nat.le_of_ble_eq_true rfl), (Nat.le_of_ble_eq_true rfl)⟩ rfl (Nat.le_of_ble_eq_true rfl) dL_law_285 (kVal h2 ?_)
  exact x_icmp_eq C 1446 rfl rfl dL_law_288 rfl (fun _ => aft υ k z (Nat.le_refl _) (Nat.le_succ _) (Nat.le_refl _) (Nat.le_add_right _ _) hT) (fun c => absurd rfl c)
set_option maxHeartbeats 4000000 in
set_option maxRecDepth 100000 in
theorem lc_truncate {ρ : Type} {X : xX} {Qf : ρ → State → Prop} {o : Option ρ} {σ : xS} {b Ln i k z m Lb : Nat} {xs : Nat → Int32} {β : Nat → Int} {B : Nat → Nat → Int} (Cg : xCg X cL_law "BakeryNightLaw" (some .boolean) room_1 7) (hs : lsS X b Ln xs) (hi : i + 6 ≤ Ln) (hk : k ≤ 601024 ∧ z ≤ 7293034) (h : TJ σ β Lb m B)
    (aft : LWaft X Qf o b i k z) : WO (xat X k z) Qf WW σ 293 (lL X b i) [] o := by
  have C := Cg k z hk.1 hk.2
  have hs : lsS (xat X k z) b Ln xs := hs
  have hb1 := i32_bd (xs (i + 1))
  obtain ⟨v, τ, υ, h1, h2, hT⟩ := KALL_S (r := m_X13_truncate (xs (i + 1)).toInt) (q_truncate h hb1.1 hb1.2)
  refine x_aload_n C 1 dL_law_293 rfl rfl ?_
  refine x_aload_n C 0 dL_law_294 rfl rfl ?_
  refine x_iload C 4 dL_law_295 rfl ?_
  refine x_iconst C (1) dL_law_297 rfl ?_
  refine x_iadd C dL_law_298 ?_
  refine x_sld C hs (i + 1) (by omega) (by omega) dL_law_299 ?_
  refine x_callV C (ct_X12_truncate _ _ (xs (i + 1)).toInt σ) mt_X12_truncate vr_X12_truncate wd720 cls_X12 at_X12 rfl ⟨rfl, rfl, (Nat.le_of_ble_eq_true rfl), (Nat.le_of_ble_eq_true rfl)⟩ rfl (Nat.le_of_ble_eq_true rfl) dL_law_300 (kVal h1 ?_)
  refine x_aload_n C 2 dL_law_303 rfl rfl ?_
  refine x_aload_n C 0 dL_law_304 rfl rfl ?_
  refine x_iload C 4 dL_law_305 rfl ?_
  refine x_iconst C (1) dL_law_307 rfl ?_
  refine x_iadd C dL_law_308 ?_
  refine x_sld C hs (i + 1) (by omega) (by omega) dL_law_309 ?_
  refine x_callV C (ct_X13_truncate _ _ (xs (i + 1)).toInt τ) mt_X13_truncate vr_X13_truncate wd1676 cls_X13 at_X13 rfl ⟨rfl, rfl, (Nat.le_of_ble_eq_true rfl), (Nat.le_of_ble_eq_true rfl)⟩ rfl (Nat.le_of_ble_eq_true rfl) dL_law_310 (kVal h2 ?_)
  exact x_icmp_eq C 1446 rfl rfl dL_law_313 rfl (fun _ => aft υ k z (Nat.le_refl _) (Nat.le_succ _) (Nat.le_refl _) (Nat.le_add_right _ _) hT) (fun c => absurd rfl c)
set_option maxHeartbeats 4000000 in
set_option maxRecDepth 100000 in
theorem lc_parseBakery {ρ : Type} {X : xX} {Qf : ρ → State → Prop} {o : Option ρ} {σ : xS} {b Ln i k z m Lb : Nat} {xs : Nat → Int32} {β : Nat → Int} {B : Nat → Nat → Int} (Cg : xCg X cL_law "BakeryNightLaw" (some .boolean) room_1 7) (hs : lsS X b Ln xs) (hi : i + 6 ≤ Ln) (hk : k ≤ 601024 ∧ z ≤ 7293034) (h : TJ σ β Lb m B)
    (aft : LWaft X Qf o b i k z) : WO (xat X k z) Qf WW σ 318 (lL X b i) [] o := by
  have C := Cg k z hk.1 hk.2
  have hs : lsS (xat X k z) b Ln xs := hs
  obtain ⟨v, τ, υ, h1, h2, hT⟩ := KALL_S (r := m_X13_parseBakery 4000000) (q_parseBakery h (Nat.le_refl 4000000) )
  refine x_aload_n C 1 dL_law_318 rfl rfl ?_
  refine x_callV C (ct_X12_parseBakery _ _ 4000000 σ) mt_X12_parseBakery vr_X12_parseBakery wd724 cls_X12 at_X12 rfl ⟨rfl, rfl, (Nat.le_of_ble_eq_true rfl), (Nat.le_of_ble_eq_true rfl)⟩ rfl (Nat.le_of_ble_eq_true rfl) dL_law_319 (kVal h1 ?_)
  refine x_aload_n C 2 dL_law_322 rfl rfl ?_
  refine x_callV C (ct_X13_parseBakery _ _ 4000000 τ) mt_X13_parseBakery vr_X13_parseBakery wd1684 cls_X13 at_X13 rfl ⟨rfl, rfl, (Nat.le_of_ble_eq_true rfl), (Nat.le_of_ble_eq_true rfl)⟩ rfl (Nat.le_of_ble_eq_true rfl) dL_law_323 (kVal h2 ?_)
  exact x_icmp_eq C 1446 rfl rfl dL_law_326 rfl (fun _ => aft υ k z (Nat.le_refl _) (Nat.le_succ _) (Nat.le_refl _) (Nat.le_add_right _ _) hT) (fun c => absurd rfl c)
set_option maxHeartbeats 4000000 in
set_option maxRecDepth 100000 in
theorem lc_errorCode {ρ : Type} {X : xX} {Qf : ρ → State → Prop} {o : Option ρ} {σ : xS} {b Ln i k z m Lb : Nat} {xs : Nat → Int32} {β : Nat → Int} {B : Nat → Nat → Int} (Cg : xCg X cL_law "BakeryNightLaw" (some .boolean) room_1 7) (hs : lsS X b Ln xs) (hi : i + 6 ≤ Ln) (hk : k ≤ 601024 ∧ z ≤ 7293034) (h : TJ σ β Lb m B)
    (aft : LWaft X Qf o b i k z) : WO (xat X k z) Qf WW σ 331 (lL X b i) [] o := by
  have C := Cg k z hk.1 hk.2
  have hs : lsS (xat X k z) b Ln xs := hs
  obtain ⟨v, τ, υ, h1, h2, hT⟩ := KALL_P (r := m_X13_errorCode) (q_errorCode h)
  refine x_aload_n C 1 dL_law_331 rfl rfl ?_
  refine x_callV C (ct_X12_errorCode _ _  σ) mt_X12_errorCode vr_X12_errorCode wd940 cls_X12 at_X12 rfl ⟨rfl, rfl, (Nat.le_of_ble_eq_true rfl), (Nat.le_of_ble_eq_true rfl)⟩ rfl (Nat.le_of_ble_eq_true rfl) dL_law_332 (kVal h1 ?_)
  refine x_aload_n C 2 dL_law_335 rfl rfl ?_
  refine x_callV C (ct_X13_errorCode _ _  τ) mt_X13_errorCode vr_X13_errorCode wd1851 cls_X13 at_X13 rfl ⟨rfl, rfl, (Nat.le_of_ble_eq_true rfl), (Nat.le_of_ble_eq_true rfl)⟩ rfl (Nat.le_of_ble_eq_true rfl) dL_law_336 (kVal h2 ?_)
  exact x_icmp_eq C 1446 rfl rfl dL_law_339 rfl (fun _ => aft υ k z (Nat.le_refl _) (Nat.le_succ _) (Nat.le_refl _) (Nat.le_add_right _ _) hT) (fun c => absurd rfl c)
set_option maxHeartbeats 4000000 in
set_option maxRecDepth 100000 in
theorem lc_errorOffset {ρ : Type} {X : xX} {Qf : ρ → State → Prop} {o : Option ρ} {σ : xS} {b Ln i k z m Lb : Nat} {xs : Nat → Int32} {β : Nat → Int} {B : Nat → Nat → Int} (Cg : xCg X cL_law "BakeryNightLaw" (some .boolean) room_1 7) (hs : lsS X b Ln xs) (hi : i + 6 ≤ Ln) (hk : k ≤ 601024 ∧ z ≤ 7293034) (h : TJ σ β Lb m B)
    (aft : LWaft X Qf o b i k z) : WO (xat X k z) Qf WW σ 344 (lL X b i) [] o := by
  have C := Cg k z hk.1 hk.2
  have hs : lsS (xat X k z) b Ln xs := hs
  obtain ⟨v, τ, υ, h1, h2, hT⟩ := KALL_P (r := m_X13_errorOffset) (q_errorOffset h)
  refine x_aload_n C 1 dL_law_344 rfl rfl ?_
  refine x_callV C (ct_X12_errorOffset _ _  σ) mt_X12_errorOffset vr_X12_errorOffset wd944 cls_X12 at_X12 rfl ⟨rfl, rfl, (Nat.le_of_ble_eq_true rfl), (Nat.le_of_ble_eq_true rfl)⟩ rfl (Nat.le_of_ble_eq_true rfl) dL_law_345 (kVal h1 ?_)
  refine x_aload_n C 2 dL_law_348 rfl rfl ?_
  refine x_callV C (ct_X13_errorOffset _ _  τ) mt_X13_errorOffset vr_X13_errorOffset wd1855 cls_X13 at_X13 rfl ⟨rfl, rfl, (Nat.le_of_ble_eq_true rfl), (Nat.le_of_ble_eq_true rfl)⟩ rfl (Nat.le_of_ble_eq_true rfl) dL_law_349 (kVal h2 ?_)
  exact x_icmp_eq C 1446 rfl rfl dL_law_352 rfl (fun _ => aft υ k z (Nat.le_refl _) (Nat.le_succ _) (Nat.le_refl _) (Nat.le_add_right _ _) hT) (fun c => absurd rfl c)
set_option maxHeartbeats 4000000 in
set_option maxRecDepth 100000 in
theorem lc_orderCount {ρ : Type} {X : xX} {Qf : ρ → State → Prop} {o : Option ρ} {σ : xS} {b Ln i k z m Lb : Nat} {xs : Nat → Int32} {β : Nat → Int} {B : Nat → Nat → Int} (Cg : xCg X cL_law "BakeryNightLaw" (some .boolean) room_1 7) (hs : lsS X b Ln xs) (hi : i + 6 ≤ Ln) (hk : k ≤ 601024 ∧ z ≤ 7293034) (h : TJ σ β Lb m B)
    (aft : LWaft X Qf o b i k z) : WO (xat X k z) Qf WW σ 357 (lL X b i) [] o := by
  have C := Cg k z hk.1 hk.2
  have hs : lsS (xat X k z) b Ln xs := hs
  obtain ⟨v, τ, υ, h1, h2, hT⟩ := KALL_P (r := m_X13_orderCount) (CALL_8 h (SAME_8 (q_orderCount h.1.1 )))
  refine x_aload_n C 1 dL_law_357 rfl rfl ?_
  refine x_callV C (ct_X12_orderCount _ _  σ) mt_X12_orderCount vr_X12_orderCount wd948 cls_X12 at_X12 rfl ⟨rfl, rfl, (Nat.le_of_ble_eq_true rfl), (Nat.le_of_ble_eq_true rfl)⟩ rfl (Nat.le_of_ble_eq_true rfl) dL_law_358 (kVal h1 ?_)
  refine x_aload_n C 2 dL_law_361 rfl rfl ?_
  refine x_callV C (ct_X13_orderCount _ _  τ) mt_X13_orderCount vr_X13_orderCount wd1859 cls_X13 at_X13 rfl ⟨rfl, rfl, (Nat.le_of_ble_eq_true rfl), (Nat.le_of_ble_eq_true rfl)⟩ rfl (Nat.le_of_ble_eq_true rfl) dL_law_362 (kVal h2 ?_)
  exact x_icmp_eq C 1446 rfl rfl dL_law_365 rfl (fun _ => aft υ k z (Nat.le_refl _) (Nat.le_succ _) (Nat.le_refl _) (Nat.le_add_right _ _) hT) (fun c => absurd rfl c)
set_option maxHeartbeats 4000000 in
set_option maxRecDepth 100000 in
theorem lc_orderedLoaves {ρ : Type} {X : xX} {Qf : ρ → State → Prop} {o : Option ρ} {σ : xS} {b Ln i k z m Lb : Nat} {xs : Nat → Int32} {β : Nat → Int} {B : Nat → Nat → Int} (Cg : xCg X cL_law "BakeryNightLaw" (some .boolean) room_1 7) (hs : lsS X b Ln xs) (hi : i + 6 ≤ Ln) (hk : k ≤ 601024 ∧ z ≤ 7293034) (h : TJ σ β Lb m B)
    (aft : LWaft X Qf o b i k z) : WO (xat X k z) Qf WW σ 370 (lL X b i) [] o := by
  have C := Cg k z hk.1 hk.2
  have hs : lsS (xat X k z) b Ln xs := hs
  have hb1 := i32_bd (xs (i + 1))
  obtain ⟨v, τ, υ, h1, h2, hT⟩ := KALL_I (r := m_X13_orderedLoaves 4000000 (xs (i + 1)).toInt) (CALL_8 h (SAME_8 (q_orderedLoaves h.1.1 (Nat.le_refl 4000000) hb1.1 hb1.2)))
  refine x_aload_n C 1 dL_law_370 rfl rfl ?_
  refine x_aload_n C 0 dL_law_371 rfl rfl ?_
  refine x_iload C 4 dL_law_372 rfl ?_
  refine x_iconst C (1) dL_law_374 rfl ?_
  refine x_iadd C dL_law_375 ?_
  refine x_sld C hs (i + 1) (by omega) (by omega) dL_law_376 ?_
  refine x_callV C (ct_X12_orderedLoaves _ _ 4000000 (xs (i + 1)).toInt σ) mt_X12_orderedLoaves vr_X12_orderedLoaves wd952 cls_X12 at_X12 rfl ⟨rfl, rfl, (Nat.le_of_ble_eq_true rfl), (Nat.le_of_ble_eq_true rfl)⟩ rfl (Nat.le_of_ble_eq_true rfl) dL_law_377 (kVal h1 ?_)
  refine x_aload_n C 2 dL_law_380 rfl rfl ?_
  refine x_aload_n C 0 dL_law_381 rfl rfl ?_
  refine x_iload C 4 dL_law_382 rfl ?_
  refine x_iconst C (1) dL_law_384 rfl ?_
  refine x_iadd C dL_law_385 ?_
  refine x_sld C hs (i + 1) (by omega) (by omega) dL_law_386 ?_
  refine x_callV C (ct_X13_orderedLoaves _ _ 4000000 (xs (i + 1)).toInt τ) mt_X13_orderedLoaves vr_X13_orderedLoaves wd1863 cls_X13 at_X13 rfl ⟨rfl, rfl, (Nat.le_of_ble_eq_true rfl), (Nat.le_of_ble_eq_true rfl)⟩ rfl (Nat.le_of_ble_eq_true rfl) dL_law_387 (kVal h2 ?_)
  exact x_icmp_eq C 1446 rfl rfl dL_law_390 rfl (fun _ => aft υ k z (Nat.le_refl _) (Nat.le_succ _) (Nat.le_refl _) (Nat.le_add_right _ _) hT) (fun c => absurd rfl c)
set_option maxHeartbeats 4000000 in
set_option maxRecDepth 100000 in
theorem lc_batchCount {ρ : Type} {X : xX} {Qf : ρ → State → Prop} {o : Option ρ} {σ : xS} {b Ln i k z m Lb : Nat} {xs : Nat → Int32} {β : Nat → Int} {B : Nat → Nat → Int} (Cg : xCg X cL_law "BakeryNightLaw" (some .boolean) room_1 7) (hs : lsS X b Ln xs) (hi : i + 6 ≤ Ln) (hk : k ≤ 601024 ∧ z ≤ 7293034) (h : TJ σ β Lb m B)
    (aft : LWaft X Qf o b i k z) : WO (xat X k z) Qf WW σ 395 (lL X b i) [] o := by
  have C := Cg k z hk.1 hk.2
  have hs : lsS (xat X k z) b Ln xs := hs
  obtain ⟨v, τ, υ, h1, h2, hT⟩ := KALL_I (r := m_X13_batchCount 4000000) (CALL_8 h (SAME_8 (q_batchCount h.1.1 (Nat.le_refl 4000000) )))
  refine x_aload_n C 1 dL_law_395 rfl rfl ?_
  refine x_callV C (ct_X12_batchCount _ _ 4000000 σ) mt_X12_batchCount vr_X12_batchCount wd968 cls_X12 at_X12 rfl ⟨rfl, rfl, (Nat.le_of_ble_eq_true rfl), (Nat.le_of_ble_eq_true rfl)⟩ rfl (Nat.le_of_ble_eq_true rfl) dL_law_396 (kVal h1 ?_)
  refine x_aload_n C 2 dL_law_399 rfl rfl ?_
  refine x_callV C (ct_X13_batchCount _ _ 4000000 τ) mt_X13_batchCount vr_X13_batchCount wd1883 cls_X13 at_X13 rfl ⟨rfl, rfl, (Nat.le_of_ble_eq_true rfl), (Nat.le_of_ble_eq_true rfl)⟩ rfl (Nat.le_of_ble_eq_true rfl) dL_law_400 (kVal h2 ?_)
  exact x_icmp_eq C 1446 rfl rfl dL_law_403 rfl (fun _ => aft υ k z (Nat.le_refl _) (Nat.le_succ _) (Nat.le_refl _) (Nat.le_add_right _ _) hT) (fun c => absurd rfl c)
set_option maxHeartbeats 4000000 in
set_option maxRecDepth 100000 in
theorem lc_risingMinutes_0 {ρ : Type} {X : xX} {Qf : ρ → State → Prop} {o : Option ρ} {σ : xS} {b Ln i k z m Lb : Nat} {xs : Nat → Int32} {β : Nat → Int} {B : Nat → Nat → Int} (Cg : xCg X cL_law "BakeryNightLaw" (some .boolean) room_1 7) (hs : lsS X b Ln xs) (hi : i + 6 ≤ Ln) (hk : k ≤ 601024 ∧ z ≤ 7293034) (h : TJ σ β Lb m B) (hz : (xs (i + 2)).toInt = 0)
    (aft : LWaft X Qf o b i k z) : WO (xat X k z) Qf WW σ 408 (lL X b i) [] o := by
  have C := Cg k z hk.1 hk.2
  have hs : lsS (xat X k z) b Ln xs := hs
  have hb1 := i32_bd (xs (i + 1))
  have hw : (0 : Int) = 0 ∨ (0 : Int) = 1 := by decide
  obtain ⟨v, τ, υ, h1, h2, hT⟩ := KALL_I (r := m_X13_risingMinutes (xs (i + 1)).toInt 0) (CALL_8 h (SAME_8 (q_risingMinutes h.1.1 hb1.1 hb1.2 hw)))
  refine x_aload_n C 1 dL_law_408 rfl rfl ?_
  refine x_aload_n C 0 dL_law_409 rfl rfl ?_
  refine x_iload C 4 dL_law_410 rfl ?_
  refine x_iconst C (1) dL_law_412 rfl ?_
  refine x_iadd C dL_law_413 ?_
  refine x_sld C hs (i + 1) (by omega) (by omega) dL_law_414 ?_
  refine x_aload_n C 0 dL_law_415 rfl rfl ?_
  refine x_iload C 4 dL_law_416 rfl ?_
  refine x_iconst C (2) dL_law_418 rfl ?_
  refine x_iadd C dL_law_419 ?_
  refine x_sld C hs (i + 2) (by omega) (by omega) dL_law_420 ?_
  refine x_if_eq C 428 (zI_of (i32_bd _).1 (i32_bd _).2) dL_law_421 rfl (fun _ => ?_) (fun c => absurd hz c)
  refine x_iconst C (0) dL_law_428 rfl ?_
  refine x_callV C (ct_X12_risingMinutes _ _ (xs (i + 1)).toInt 0 σ) mt_X12_risingMinutes vr_X12_risingMinutes wd984 cls_X12 at_X12 rfl ⟨rfl, rfl, (Nat.le_of_ble_eq_true rfl), (Nat.le_of_ble_eq_true rfl)⟩ rfl (Nat.le_of_ble_eq_true rfl) dL_law_429 (kVal h1 ?_)
  refine x_aload_n C 2 dL_law_432 rfl rfl ?_
  refine x_aload_n C 0 dL_law_433 rfl rfl ?_
  refine x_iload C 4 dL_law_434 rfl ?_
  refine x_iconst C (1) dL_law_436 rfl ?_
  refine x_iadd C dL_law_437 ?_
  refine x_sld C hs (i + 1) (by omega) (by omega) dL_law_438 ?_
  refine x_aload_n C 0 dL_law_439 rfl rfl ?_
  refine x_iload C 4 dL_law_440 rfl ?_
  refine x_iconst C (2) dL_law_442 rfl ?_
  refine x_iadd C dL_law_443 ?_
  refine x_sld C hs (i + 2) (by omega) (by omega) dL_law_444 ?_
  refine x_if_eq C 452 (zI_of (i32_bd _).1 (i32_bd _).2) dL_law_445 rfl (fun _ => ?_) (fun c => absurd hz c)
  refine x_iconst C (0) dL_law_452 rfl ?_
  refine x_callV C (ct_X13_risingMinutes _ _ (xs (i + 1)).toInt 0 τ) mt_X13_risingMinutes vr_X13_risingMinutes wd1903 cls_X13 at_X13 rfl ⟨rfl, rfl, (Nat.le_of_ble_eq_true rfl), (Nat.le_of_ble_eq_true rfl)⟩ rfl (Nat.le_of_ble_eq_true rfl) dL_law_453 (kVal h2 ?_)
  exact x_icmp_eq C 1446 rfl rfl dL_law_456 rfl (fun _ => aft υ k z (Nat.le_refl _) (Nat.le_succ _) (Nat.le_refl _) (Nat.le_add_right _ _) hT) (fun c => absurd rfl c)
set_option maxHeartbeats 4000000 in
set_option maxRecDepth 100000 in
theorem lc_risingMinutes_1 {ρ : Type} {X : xX} {Qf : ρ → State → Prop} {o : Option ρ} {σ : xS} {b Ln i k z m Lb : Nat} {xs : Nat → Int32} {β : Nat → Int} {B : Nat → Nat → Int} (Cg : xCg X cL_law "BakeryNightLaw" (some .boolean) room_1 7) (hs : lsS X b Ln xs) (hi : i + 6 ≤ Ln) (hk : k ≤ 601024 ∧ z ≤ 7293034) (h : TJ σ β Lb m B) (hz : ¬ (xs (i + 2)).toInt = 0)
    (aft : LWaft X Qf o b i k z) : WO (xat X k z) Qf WW σ 408 (lL X b i) [] o := by
  have C := Cg k z hk.1 hk.2
  have hs : lsS (xat X k z) b Ln xs := hs
  have hb1 := i32_bd (xs (i + 1))
  have hw : (1 : Int) = 0 ∨ (1 : Int) = 1 := by decide
  obtain ⟨v, τ, υ, h1, h2, hT⟩ := KALL_I (r := m_X13_risingMinutes (xs (i + 1)).toInt 1) (CALL_8 h (SAME_8 (q_risingMinutes h.1.1 hb1.1 hb1.2 hw)))
  refine x_aload_n C 1 dL_law_408 rfl rfl ?_
  refine x_aload_n C 0 dL_law_409 rfl rfl ?_
  refine x_iload C 4 dL_law_410 rfl ?_
  refine x_iconst C (1) dL_law_412 rfl ?_
  refine x_iadd C dL_law_413 ?_
  refine x_sld C hs (i + 1) (by omega) (by omega) dL_law_414 ?_
  refine x_aload_n C 0 dL_law_415 rfl rfl ?_
  refine x_iload C 4 dL_law_416 rfl ?_
  refine x_iconst C (2) dL_law_418 rfl ?_
  refine x_iadd C dL_law_419 ?_
  refine x_sld C hs (i + 2) (by omega) (by omega) dL_law_420 ?_
  refine x_if_eq C 428 (zI_of (i32_bd _).1 (i32_bd _).2) dL_law_421 rfl (fun c => absurd c hz) (fun _ => ?_)
  refine x_iconst C (1) dL_law_424 rfl ?_
  refine x_goto C 429 dL_law_425 rfl ?_
  refine x_callV C (ct_X12_risingMinutes _ _ (xs (i + 1)).toInt 1 σ) mt_X12_risingMinutes vr_X12_risingMinutes wd984 cls_X12 at_X12 rfl ⟨rfl, rfl, (Nat.le_of_ble_eq_true rfl), (Nat.le_of_ble_eq_true rfl)⟩ rfl (Nat.le_of_ble_eq_true rfl) dL_law_429 (kVal h1 ?_)
  refine x_aload_n C 2 dL_law_432 rfl rfl ?_
  refine x_aload_n C 0 dL_law_433 rfl rfl ?_
  refine x_iload C 4 dL_law_434 rfl ?_
  refine x_iconst C (1) dL_law_436 rfl ?_
  refine x_iadd C dL_law_437 ?_
  refine x_sld C hs (i + 1) (by omega) (by omega) dL_law_438 ?_
  refine x_aload_n C 0 dL_law_439 rfl rfl ?_
  refine x_iload C 4 dL_law_440 rfl ?_
  refine x_iconst C (2) dL_law_442 rfl ?_
  refine x_iadd C dL_law_443 ?_
  refine x_sld C hs (i + 2) (by omega) (by omega) dL_law_444 ?_
  refine x_if_eq C 452 (zI_of (i32_bd _).1 (i32_bd _).2) dL_law_445 rfl (fun c => absurd c hz) (fun _ => ?_)
  refine x_iconst C (1) dL_law_448 rfl ?_
  refine x_goto C 453 dL_law_449 rfl ?_
  refine x_callV C (ct_X13_risingMinutes _ _ (xs (i + 1)).toInt 1 τ) mt_X13_risingMinutes vr_X13_risingMinutes wd1903 cls_X13 at_X13 rfl ⟨rfl, rfl, (Nat.le_of_ble_eq_true rfl), (Nat.le_of_ble_eq_true rfl)⟩ rfl (Nat.le_of_ble_eq_true rfl) dL_law_453 (kVal h2 ?_)
  exact x_icmp_eq C 1446 rfl rfl dL_law_456 rfl (fun _ => aft υ k z (Nat.le_refl _) (Nat.le_succ _) (Nat.le_refl _) (Nat.le_add_right _ _) hT) (fun c => absurd rfl c)
set_option maxHeartbeats 4000000 in
set_option maxRecDepth 100000 in
theorem lc_distance {ρ : Type} {X : xX} {Qf : ρ → State → Prop} {o : Option ρ} {σ : xS} {b Ln i k z m Lb : Nat} {xs : Nat → Int32} {β : Nat → Int} {B : Nat → Nat → Int} (Cg : xCg X cL_law "BakeryNightLaw" (some .boolean) room_1 7) (hs : lsS X b Ln xs) (hi : i + 6 ≤ Ln) (hk : k ≤ 601024 ∧ z ≤ 7293034) (h : TJ σ β Lb m B)
    (aft : LWaft X Qf o b i k z) : WO (xat X k z) Qf WW σ 461 (lL X b i) [] o := by
  have C := Cg k z hk.1 hk.2
  have hs : lsS (xat X k z) b Ln xs := hs
  have hb1 := i32_bd (xs (i + 1))
  have hb2 := i32_bd (xs (i + 2))
  obtain ⟨v, τ, υ, h1, h2, hT⟩ := KALL_I (r := m_X13_distance 4000000 (xs (i + 1)).toInt (xs (i + 2)).toInt) (CALL_8 h (q_distance h.1.1 h.1.2.1 (Nat.le_refl 4000000) hb1.1 hb1.2 hb2.1 hb2.2))
  refine x_aload_n C 1 dL_law_461 rfl rfl ?_
  refine x_aload_n C 0 dL_law_462 rfl rfl ?_
  refine x_iload C 4 dL_law_463 rfl ?_
  refine x_iconst C (1) dL_law_465 rfl ?_
  refine x_iadd C dL_law_466 ?_
  refine x_sld C hs (i + 1) (by omega) (by omega) dL_law_467 ?_
  refine x_aload_n C 0 dL_law_468 rfl rfl ?_
  refine x_iload C 4 dL_law_469 rfl ?_
  refine x_iconst C (2) dL_law_471 rfl ?_
  refine x_iadd C dL_law_472 ?_
  refine x_sld C hs (i + 2) (by omega) (by omega) dL_law_473 ?_
  refine x_callV C (ct_X12_distance _ _ (xs (i + 1)).toInt (xs (i + 2)).toInt σ) mt_X12_distance vr_X12_distance wd992 cls_X12 at_X12 rfl ⟨rfl, rfl, (Nat.le_of_ble_eq_true rfl), (Nat.le_of_ble_eq_true rfl)⟩ rfl (Nat.le_of_ble_eq_true rfl) dL_law_474 (kVal h1 ?_)
  refine x_aload_n C 2 dL_law_477 rfl rfl ?_
  refine x_aload_n C 0 dL_law_478 rfl rfl ?_
  refine x_iload C 4 dL_law_479 rfl ?_
  refine x_iconst C (1) dL_law_481 rfl ?_
  refine x_iadd C dL_law_482 ?_
  refine x_sld C hs (i + 1) (by omega) (by omega) dL_law_483 ?_
  refine x_aload_n C 0 dL_law_484 rfl rfl ?_
  refine x_iload C 4 dL_law_485 rfl ?_
  refine x_iconst C (2) dL_law_487 rfl ?_
  refine x_iadd C dL_law_488 ?_
  refine x_sld C hs (i + 2) (by omega) (by omega) dL_law_489 ?_
  refine x_callV C (ct_X13_distance _ _ 4000000 (xs (i + 1)).toInt (xs (i + 2)).toInt τ) mt_X13_distance vr_X13_distance wd2108 cls_X13 at_X13 rfl ⟨rfl, rfl, (Nat.le_of_ble_eq_true rfl), (Nat.le_of_ble_eq_true rfl)⟩ rfl (Nat.le_of_ble_eq_true rfl) dL_law_490 (kVal h2 ?_)
  exact x_icmp_eq C 1446 rfl rfl dL_law_493 rfl (fun _ => aft υ k z (Nat.le_refl _) (Nat.le_succ _) (Nat.le_refl _) (Nat.le_add_right _ _) hT) (fun c => absurd rfl c)
set_option maxHeartbeats 4000000 in
set_option maxRecDepth 100000 in
theorem lc_routeMinutes {ρ : Type} {X : xX} {Qf : ρ → State → Prop} {o : Option ρ} {σ : xS} {b Ln i k z m Lb : Nat} {xs : Nat → Int32} {β : Nat → Int} {B : Nat → Nat → Int} (Cg : xCg X cL_law "BakeryNightLaw" (some .boolean) room_1 7) (hs : lsS X b Ln xs) (hi : i + 6 ≤ Ln) (hk : k ≤ 601024 ∧ z ≤ 7293034) (h : TJ σ β Lb m B)
    (aft : LWaft X Qf o b i k z) : WO (xat X k z) Qf WW σ 498 (lL X b i) [] o := by
  have C := Cg k z hk.1 hk.2
  have hs : lsS (xat X k z) b Ln xs := hs
  have hb1 := i32_bd (xs (i + 1))
  obtain ⟨v, τ, υ, h1, h2, hT⟩ := KALL_I (r := m_X13_routeMinutes 4000000 (xs (i + 1)).toInt) (CALL_8 h (q_routeMinutes h.1.1 h.1.2.1 (Nat.le_refl 4000000) hb1.1 hb1.2))
  refine x_aload_n C 1 dL_law_498 rfl rfl ?_
  refine x_aload_n C 0 dL_law_499 rfl rfl ?_
  refine x_iload C 4 dL_law_500 rfl ?_
  refine x_iconst C (1) dL_law_502 rfl ?_
  refine x_iadd C dL_law_503 ?_
  refine x_sld C hs (i + 1) (by omega) (by omega) dL_law_504 ?_
  refine x_callV C (ct_X12_routeMinutes _ _ (xs (i + 1)).toInt σ) mt_X12_routeMinutes vr_X12_routeMinutes wd1009 cls_X12 at_X12 rfl ⟨rfl, rfl, (Nat.le_of_ble_eq_true rfl), (Nat.le_of_ble_eq_true rfl)⟩ rfl (Nat.le_of_ble_eq_true rfl) dL_law_505 (kVal h1 ?_)
  refine x_aload_n C 2 dL_law_508 rfl rfl ?_
  refine x_aload_n C 0 dL_law_509 rfl rfl ?_
  refine x_iload C 4 dL_law_510 rfl ?_
  refine x_iconst C (1) dL_law_512 rfl ?_
  refine x_iadd C dL_law_513 ?_
  refine x_sld C hs (i + 1) (by omega) (by omega) dL_law_514 ?_
  refine x_callV C (ct_X13_routeMinutes _ _ 4000000 (xs (i + 1)).toInt τ) mt_X13_routeMinutes vr_X13_routeMinutes wd2124 cls_X13 at_X13 rfl ⟨rfl, rfl, (Nat.le_of_ble_eq_true rfl), (Nat.le_of_ble_eq_true rfl)⟩ rfl (Nat.le_of_ble_eq_true rfl) dL_law_515 (kVal h2 ?_)
  exact x_icmp_eq C 1446 rfl rfl dL_law_518 rfl (fun _ => aft υ k z (Nat.le_refl _) (Nat.le_succ _) (Nat.le_refl _) (Nat.le_add_right _ _) hT) (fun c => absurd rfl c)
set_option maxHeartbeats 4000000 in
set_option maxRecDepth 100000 in
theorem lc_routeStop {ρ : Type} {X : xX} {Qf : ρ → State → Prop} {o : Option ρ} {σ : xS} {b Ln i k z m Lb : Nat} {xs : Nat → Int32} {β : Nat → Int} {B : Nat → Nat → Int} (Cg : xCg X cL_law "BakeryNightLaw" (some .boolean) room_1 7) (hs : lsS X b Ln xs) (hi : i + 6 ≤ Ln) (hk : k ≤ 601024 ∧ z ≤ 7293034) (h : TJ σ β Lb m B)
    (aft : LWaft X Qf o b i k z) : WO (xat X k z) Qf WW σ 523 (lL X b i) [] o := by
  have C := Cg k z hk.1 hk.2
  have hs : lsS (xat X k z) b Ln xs := hs
  have hb1 := i32_bd (xs (i + 1))
  have hb2 := i32_bd (xs (i + 2))
  obtain ⟨v, τ, υ, h1, h2, hT⟩ := KALL_I (r := m_X13_routeStop 4000000 (xs (i + 1)).toInt (xs (i + 2)).toInt) (CALL_8 h (q_routeStop h.1.1 h.1.2.1 (Nat.le_refl 4000000) hb1.1 hb1.2 hb2.1 hb2.2))
  refine x_aload_n C 1 dL_law_523 rfl rfl ?_
  refine x_aload_n C 0 dL_law_524 rfl rfl ?_
  refine x_iload C 4 dL_law_525 rfl ?_
  refine x_iconst C (1) dL_law_527 rfl ?_
  refine x_iadd C dL_law_528 ?_
  refine x_sld C hs (i + 1) (by omega) (by omega) dL_law_529 ?_
  refine x_aload_n C 0 dL_law_530 rfl rfl ?_
  refine x_iload C 4 dL_law_531 rfl ?_
  refine x_iconst C (2) dL_law_533 rfl ?_
  refine x_iadd C dL_law_534 ?_
  refine x_sld C hs (i + 2) (by omega) (by omega) dL_law_535 ?_
  refine x_callV C (ct_X12_routeStop _ _ 4000000 (xs (i + 1)).toInt (xs (i + 2)).toInt σ) mt_X12_routeStop vr_X12_routeStop wd1021 cls_X12 at_X12 rfl ⟨rfl, rfl, (Nat.le_of_ble_eq_true rfl), (Nat.le_of_ble_eq_true rfl)⟩ rfl (Nat.le_of_ble_eq_true rfl) dL_law_536 (kVal h1 ?_)
  refine x_aload_n C 2 dL_law_539 rfl rfl ?_
  refine x_aload_n C 0 dL_law_540 rfl rfl ?_
  refine x_iload C 4 dL_law_541 rfl ?_
  refine x_iconst C (1) dL_law_543 rfl ?_
  refine x_iadd C dL_law_544 ?_
  refine x_sld C hs (i + 1) (by omega) (by omega) dL_law_545 ?_
  refine x_aload_n C 0 dL_law_546 rfl rfl ?_
  refine x_iload C 4 dL_law_547 rfl ?_
  refine x_iconst C (2) dL_law_549 rfl ?_
  refine x_iadd C dL_law_550 ?_
  refine x_sld C hs (i + 2) (by omega) (by omega) dL_law_551 ?_
  refine x_callV C (ct_X13_routeStop _ _ 4000000 (xs (i + 1)).toInt (xs (i + 2)).toInt τ) mt_X13_routeStop vr_X13_routeStop wd2132 cls_X13 at_X13 rfl ⟨rfl, rfl, (Nat.le_of_ble_eq_true rfl), (Nat.le_of_ble_eq_true rfl)⟩ rfl (Nat.le_of_ble_eq_true rfl) dL_law_552 (kVal h2 ?_)
  exact x_icmp_eq C 1446 rfl rfl dL_law_555 rfl (fun _ => aft υ k z (Nat.le_refl _) (Nat.le_succ _) (Nat.le_refl _) (Nat.le_add_right _ _) hT) (fun c => absurd rfl c)
set_option maxHeartbeats 4000000 in
set_option maxRecDepth 100000 in
theorem lc_simulate {ρ : Type} {X : xX} {Qf : ρ → State → Prop} {o : Option ρ} {σ : xS} {b Ln i k z m Lb : Nat} {xs : Nat → Int32} {β : Nat → Int} {B : Nat → Nat → Int} (Cg : xCg X cL_law "BakeryNightLaw" (some .boolean) room_1 7) (hs : lsS X b Ln xs) (hi : i + 6 ≤ Ln) (hk : k ≤ 601024 ∧ z ≤ 7293034) (h : TJ σ β Lb m B)
    (aft : LWaft X Qf o b i k z) : WO (xat X k z) Qf WW σ 560 (lL X b i) [] o := by
  have C := Cg k z hk.1 hk.2
  have hs : lsS (xat X k z) b Ln xs := hs
  have hb1 := i32_bd (xs (i + 1))
  obtain ⟨v, τ, υ, h1, h2, hT⟩ := KALL_S (r := m_X13_simulate 4000000 (xs (i + 1)).toInt) (q_simulateT h (Nat.le_refl 4000000) hb1.1 hb1.2)
  refine x_aload_n C 1 dL_law_560 rfl rfl ?_
  refine x_aload_n C 0 dL_law_561 rfl rfl ?_
  refine x_iload C 4 dL_law_562 rfl ?_
  refine x_iconst C (1) dL_law_564 rfl ?_
  refine x_iadd C dL_law_565 ?_
  refine x_sld C hs (i + 1) (by omega) (by omega) dL_law_566 ?_
  refine x_callV C (ct_X12_simulate _ _ 4000000 (xs (i + 1)).toInt σ) mt_X12_simulate vr_X12_simulate wd1037 cls_X12 at_X12 rfl ⟨rfl, rfl, (Nat.le_of_ble_eq_true rfl), (Nat.le_of_ble_eq_true rfl)⟩ rfl (Nat.le_of_ble_eq_true rfl) dL_law_567 (kVal h1 ?_)
  refine x_aload_n C 2 dL_law_570 rfl rfl ?_
  refine x_aload_n C 0 dL_law_571 rfl rfl ?_
  refine x_iload C 4 dL_law_572 rfl ?_
  refine x_iconst C (1) dL_law_574 rfl ?_
  refine x_iadd C dL_law_575 ?_
  refine x_sld C hs (i + 1) (by omega) (by omega) dL_law_576 ?_
  refine x_callV C (ct_X13_simulate _ _ 4000000 (xs (i + 1)).toInt τ) mt_X13_simulate vr_X13_simulate wd1911 cls_X13 at_X13 rfl ⟨rfl, rfl, (Nat.le_of_ble_eq_true rfl), (Nat.le_of_ble_eq_true rfl)⟩ rfl (Nat.le_of_ble_eq_true rfl) dL_law_577 (kVal h2 ?_)
  exact x_icmp_eq C 1446 rfl rfl dL_law_580 rfl (fun _ => aft υ k z (Nat.le_refl _) (Nat.le_succ _) (Nat.le_refl _) (Nat.le_add_right _ _) hT) (fun c => absurd rfl c)
set_option maxHeartbeats 4000000 in
set_option maxRecDepth 100000 in
theorem lc_spoiledCount {ρ : Type} {X : xX} {Qf : ρ → State → Prop} {o : Option ρ} {σ : xS} {b Ln i k z m Lb : Nat} {xs : Nat → Int32} {β : Nat → Int} {B : Nat → Nat → Int} (Cg : xCg X cL_law "BakeryNightLaw" (some .boolean) room_1 7) (hs : lsS X b Ln xs) (hi : i + 6 ≤ Ln) (hk : k ≤ 601024 ∧ z ≤ 7293034) (h : TJ σ β Lb m B)
    (aft : LWaft X Qf o b i k z) : WO (xat X k z) Qf WW σ 765 (lL X b i) [] o := by
  have C := Cg k z hk.1 hk.2
  have hs : lsS (xat X k z) b Ln xs := hs
  obtain ⟨v, τ, υ, h1, h2, hT⟩ := KALL_I (r := m_X13_spoiledCount 4000000) (CALL_8 h (SAME_8 (q_spoiledCount h.1.1 (Nat.le_refl 4000000) )))
  refine x_aload_n C 1 dL_law_765 rfl rfl ?_
  refine x_callV C (ct_X12_spoiledCount _ _ 4000000 σ) mt_X12_spoiledCount vr_X12_spoiledCount wd1138 cls_X12 at_X12 rfl ⟨rfl, rfl, (Nat.le_of_ble_eq_true rfl), (Nat.le_of_ble_eq_true rfl)⟩ rfl (Nat.le_of_ble_eq_true rfl) dL_law_766 (kVal h1 ?_)
  refine x_aload_n C 2 dL_law_769 rfl rfl ?_
  refine x_callV C (ct_X13_spoiledCount _ _ 4000000 τ) mt_X13_spoiledCount vr_X13_spoiledCount wd2026 cls_X13 at_X13 rfl ⟨rfl, rfl, (Nat.le_of_ble_eq_true rfl), (Nat.le_of_ble_eq_true rfl)⟩ rfl (Nat.le_of_ble_eq_true rfl) dL_law_770 (kVal h2 ?_)
  exact x_icmp_eq C 1446 rfl rfl dL_law_773 rfl (fun _ => aft υ k z (Nat.le_refl _) (Nat.le_succ _) (Nat.le_refl _) (Nat.le_add_right _ _) hT) (fun c => absurd rfl c)
set_option maxHeartbeats 4000000 in
set_option maxRecDepth 100000 in
theorem lc_changingMinutes {ρ : Type} {X : xX} {Qf : ρ → State → Prop} {o : Option ρ} {σ : xS} {b Ln i k z m Lb : Nat} {xs : Nat → Int32} {β : Nat → Int} {B : Nat → Nat → Int} (Cg : xCg X cL_law "BakeryNightLaw" (some .boolean) room_1 7) (hs : lsS X b Ln xs) (hi : i + 6 ≤ Ln) (hk : k ≤ 601024 ∧ z ≤ 7293034) (h : TJ σ β Lb m B)
    (aft : LWaft X Qf o b i k z) : WO (xat X k z) Qf WW σ 778 (lL X b i) [] o := by
  have C := Cg k z hk.1 hk.2
  have hs : lsS (xat X k z) b Ln xs := hs
  have hb1 := i32_bd (xs (i + 1))
  obtain ⟨v, τ, υ, h1, h2, hT⟩ := KALL_I (r := m_X13_changingMinutes 4000000 (xs (i + 1)).toInt) (CALL_8 h (SAME_8 (q_changingMinutes h.1.1 (Nat.le_refl 4000000) hb1.1 hb1.2)))
  refine x_aload_n C 1 dL_law_778 rfl rfl ?_
  refine x_aload_n C 0 dL_law_779 rfl rfl ?_
  refine x_iload C 4 dL_law_780 rfl ?_
  refine x_iconst C (1) dL_law_782 rfl ?_
  refine x_iadd C dL_law_783 ?_
  refine x_sld C hs (i + 1) (by omega) (by omega) dL_law_784 ?_
  refine x_callV C (ct_X12_changingMinutes _ _ (xs (i + 1)).toInt σ) mt_X12_changingMinutes vr_X12_changingMinutes wd1146 cls_X12 at_X12 rfl ⟨rfl, rfl, (Nat.le_of_ble_eq_true rfl), (Nat.le_of_ble_eq_true rfl)⟩ rfl (Nat.le_of_ble_eq_true rfl) dL_law_785 (kVal h1 ?_)
  refine x_aload_n C 2 dL_law_788 rfl rfl ?_
  refine x_aload_n C 0 dL_law_789 rfl rfl ?_
  refine x_iload C 4 dL_law_790 rfl ?_
  refine x_iconst C (1) dL_law_792 rfl ?_
  refine x_iadd C dL_law_793 ?_
  refine x_sld C hs (i + 1) (by omega) (by omega) dL_law_794 ?_
  refine x_callV C (ct_X13_changingMinutes _ _ 4000000 (xs (i + 1)).toInt τ) mt_X13_changingMinutes vr_X13_changingMinutes wd2030 cls_X13 at_X13 rfl ⟨rfl, rfl, (Nat.le_of_ble_eq_true rfl), (Nat.le_of_ble_eq_true rfl)⟩ rfl (Nat.le_of_ble_eq_true rfl) dL_law_795 (kVal h2 ?_)
  exact x_icmp_eq C 1446 rfl rfl dL_law_798 rfl (fun _ => aft υ k z (Nat.le_refl _) (Nat.le_succ _) (Nat.le_refl _) (Nat.le_add_right _ _) hT) (fun c => absurd rfl c)
set_option maxHeartbeats 4000000 in
set_option maxRecDepth 100000 in
theorem lc_bakingMinutes {ρ : Type} {X : xX} {Qf : ρ → State → Prop} {o : Option ρ} {σ : xS} {b Ln i k z m Lb : Nat} {xs : Nat → Int32} {β : Nat → Int} {B : Nat → Nat → Int} (Cg : xCg X cL_law "BakeryNightLaw" (some .boolean) room_1 7) (hs : lsS X b Ln xs) (hi : i + 6 ≤ Ln) (hk : k ≤ 601024 ∧ z ≤ 7293034) (h : TJ σ β Lb m B)
    (aft : LWaft X Qf o b i k z) : WO (xat X k z) Qf WW σ 803 (lL X b i) [] o := by
  have C := Cg k z hk.1 hk.2
  have hs : lsS (xat X k z) b Ln xs := hs
  have hb1 := i32_bd (xs (i + 1))
  obtain ⟨v, τ, υ, h1, h2, hT⟩ := KALL_I (r := m_X13_bakingMinutes 4000000 (xs (i + 1)).toInt) (CALL_8 h (SAME_8 (q_bakingMinutes h.1.1 (Nat.le_refl 4000000) hb1.1 hb1.2)))
  refine x_aload_n C 1 dL_law_803 rfl rfl ?_
  refine x_aload_n C 0 dL_law_804 rfl rfl ?_
  refine x_iload C 4 dL_law_805 rfl ?_
  refine x_iconst C (1) dL_law_807 rfl ?_
  refine x_iadd C dL_law_808 ?_
  refine x_sld C hs (i + 1) (by omega) (by omega) dL_law_809 ?_
  refine x_callV C (ct_X12_bakingMinutes _ _ 4000000 (xs (i + 1)).toInt σ) mt_X12_bakingMinutes vr_X12_bakingMinutes wd1154 cls_X12 at_X12 rfl ⟨rfl, rfl, (Nat.le_of_ble_eq_true rfl), (Nat.le_of_ble_eq_true rfl)⟩ rfl (Nat.le_of_ble_eq_true rfl) dL_law_810 (kVal h1 ?_)
  refine x_aload_n C 2 dL_law_813 rfl rfl ?_
  refine x_aload_n C 0 dL_law_814 rfl rfl ?_
  refine x_iload C 4 dL_law_815 rfl ?_
  refine x_iconst C (1) dL_law_817 rfl ?_
  refine x_iadd C dL_law_818 ?_
  refine x_sld C hs (i + 1) (by omega) (by omega) dL_law_819 ?_
  refine x_callV C (ct_X13_bakingMinutes _ _ 4000000 (xs (i + 1)).toInt τ) mt_X13_bakingMinutes vr_X13_bakingMinutes wd2038 cls_X13 at_X13 rfl ⟨rfl, rfl, (Nat.le_of_ble_eq_true rfl), (Nat.le_of_ble_eq_true rfl)⟩ rfl (Nat.le_of_ble_eq_true rfl) dL_law_820 (kVal h2 ?_)
  exact x_icmp_eq C 1446 rfl rfl dL_law_823 rfl (fun _ => aft υ k z (Nat.le_refl _) (Nat.le_succ _) (Nat.le_refl _) (Nat.le_add_right _ _) hT) (fun c => absurd rfl c)
set_option maxHeartbeats 4000000 in
set_option maxRecDepth 100000 in
theorem lc_waitingMinutes {ρ : Type} {X : xX} {Qf : ρ → State → Prop} {o : Option ρ} {σ : xS} {b Ln i k z m Lb : Nat} {xs : Nat → Int32} {β : Nat → Int} {B : Nat → Nat → Int} (Cg : xCg X cL_law "BakeryNightLaw" (some .boolean) room_1 7) (hs : lsS X b Ln xs) (hi : i + 6 ≤ Ln) (hk : k ≤ 601024 ∧ z ≤ 7293034) (h : TJ σ β Lb m B)
    (aft : LWaft X Qf o b i k z) : WO (xat X k z) Qf WW σ 828 (lL X b i) [] o := by
  have C := Cg k z hk.1 hk.2
  have hs : lsS (xat X k z) b Ln xs := hs
  have hb1 := i32_bd (xs (i + 1))
  obtain ⟨v, τ, υ, h1, h2, hT⟩ := KALL_I (r := m_X13_waitingMinutes 4000000 (xs (i + 1)).toInt) (CALL_8 h (SAME_8 (q_waitingMinutes h.1.1 (Nat.le_refl 4000000) hb1.1 hb1.2)))
  refine x_aload_n C 1 dL_law_828 rfl rfl ?_
  refine x_aload_n C 0 dL_law_829 rfl rfl ?_
  refine x_iload C 4 dL_law_830 rfl ?_
  refine x_iconst C (1) dL_law_832 rfl ?_
  refine x_iadd C dL_law_833 ?_
  refine x_sld C hs (i + 1) (by omega) (by omega) dL_law_834 ?_
  refine x_callV C (ct_X12_waitingMinutes _ _ 4000000 (xs (i + 1)).toInt σ) mt_X12_waitingMinutes vr_X12_waitingMinutes wd1162 cls_X12 at_X12 rfl ⟨rfl, rfl, (Nat.le_of_ble_eq_true rfl), (Nat.le_of_ble_eq_true rfl)⟩ rfl (Nat.le_of_ble_eq_true rfl) dL_law_835 (kVal h1 ?_)
  refine x_aload_n C 2 dL_law_838 rfl rfl ?_
  refine x_aload_n C 0 dL_law_839 rfl rfl ?_
  refine x_iload C 4 dL_law_840 rfl ?_
  refine x_iconst C (1) dL_law_842 rfl ?_
  refine x_iadd C dL_law_843 ?_
  refine x_sld C hs (i + 1) (by omega) (by omega) dL_law_844 ?_
  refine x_callV C (ct_X13_waitingMinutes _ _ 4000000 (xs (i + 1)).toInt τ) mt_X13_waitingMinutes vr_X13_waitingMinutes wd2042 cls_X13 at_X13 rfl ⟨rfl, rfl, (Nat.le_of_ble_eq_true rfl), (Nat.le_of_ble_eq_true rfl)⟩ rfl (Nat.le_of_ble_eq_true rfl) dL_law_845 (kVal h2 ?_)
  exact x_icmp_eq C 1446 rfl rfl dL_law_848 rfl (fun _ => aft υ k z (Nat.le_refl _) (Nat.le_succ _) (Nat.le_refl _) (Nat.le_add_right _ _) hT) (fun c => absurd rfl c)
set_option maxHeartbeats 4000000 in
set_option maxRecDepth 100000 in
theorem lc_shelvesUsed {ρ : Type} {X : xX} {Qf : ρ → State → Prop} {o : Option ρ} {σ : xS} {b Ln i k z m Lb : Nat} {xs : Nat → Int32} {β : Nat → Int} {B : Nat → Nat → Int} (Cg : xCg X cL_law "BakeryNightLaw" (some .boolean) room_1 7) (hs : lsS X b Ln xs) (hi : i + 6 ≤ Ln) (hk : k ≤ 601024 ∧ z ≤ 7293034) (h : TJ σ β Lb m B)
    (aft : LWaft X Qf o b i k z) : WO (xat X k z) Qf WW σ 853 (lL X b i) [] o := by
  have C := Cg k z hk.1 hk.2
  have hs : lsS (xat X k z) b Ln xs := hs
  have hb1 := i32_bd (xs (i + 1))
  have hb2 := i32_bd (xs (i + 2))
  obtain ⟨v, τ, υ, h1, h2, hT⟩ := KALL_I (r := m_X13_shelvesUsed 4000000 (xs (i + 1)).toInt (xs (i + 2)).toInt) (CALL_8 h (SAME_8 (q_shelvesUsed h.1.1 (Nat.le_refl 4000000) hb1.1 hb1.2 hb2.1 hb2.2)))
  refine x_aload_n C 1 dL_law_853 rfl rfl ?_
  refine x_aload_n C 0 dL_law_854 rfl rfl ?_
  refine x_iload C 4 dL_law_855 rfl ?_
  refine x_iconst C (1) dL_law_857 rfl ?_
  refine x_iadd C dL_law_858 ?_
  refine x_sld C hs (i + 1) (by omega) (by omega) dL_law_859 ?_
  refine x_aload_n C 0 dL_law_860 rfl rfl ?_
  refine x_iload C 4 dL_law_861 rfl ?_
  refine x_iconst C (2) dL_law_863 rfl ?_
  refine x_iadd C dL_law_864 ?_
  refine x_sld C hs (i + 2) (by omega) (by omega) dL_law_865 ?_
  refine x_callV C (ct_X12_shelvesUsed _ _ 4000000 (xs (i + 1)).toInt (xs (i + 2)).toInt σ) mt_X12_shelvesUsed vr_X12_shelvesUsed wd1176 cls_X12 at_X12 rfl ⟨rfl, rfl, (Nat.le_of_ble_eq_true rfl), (Nat.le_of_ble_eq_true rfl)⟩ rfl (Nat.le_of_ble_eq_true rfl) dL_law_866 (kVal h1 ?_)
  refine x_aload_n C 2 dL_law_869 rfl rfl ?_
  refine x_aload_n C 0 dL_law_870 rfl rfl ?_
  refine x_iload C 4 dL_law_871 rfl ?_
  refine x_iconst C (1) dL_law_873 rfl ?_
  refine x_iadd C dL_law_874 ?_
  refine x_sld C hs (i + 1) (by omega) (by omega) dL_law_875 ?_
  refine x_aload_n C 0 dL_law_876 rfl rfl ?_
  refine x_iload C 4 dL_law_877 rfl ?_
  refine x_iconst C (2) dL_law_879 rfl ?_
  refine x_iadd C dL_law_880 ?_
  refine x_sld C hs (i + 2) (by omega) (by omega) dL_law_881 ?_
  refine x_callV C (ct_X13_shelvesUsed _ _ 4000000 (xs (i + 1)).toInt (xs (i + 2)).toInt τ) mt_X13_shelvesUsed vr_X13_shelvesUsed wd2046 cls_X13 at_X13 rfl ⟨rfl, rfl, (Nat.le_of_ble_eq_true rfl), (Nat.le_of_ble_eq_true rfl)⟩ rfl (Nat.le_of_ble_eq_true rfl) dL_law_882 (kVal h2 ?_)
  exact x_icmp_eq C 1446 rfl rfl dL_law_885 rfl (fun _ => aft υ k z (Nat.le_refl _) (Nat.le_succ _) (Nat.le_refl _) (Nat.le_add_right _ _) hT) (fun c => absurd rfl c)
set_option maxHeartbeats 4000000 in
set_option maxRecDepth 100000 in
theorem lc_busy {ρ : Type} {X : xX} {Qf : ρ → State → Prop} {o : Option ρ} {σ : xS} {b Ln i k z m Lb : Nat} {xs : Nat → Int32} {β : Nat → Int} {B : Nat → Nat → Int} (Cg : xCg X cL_law "BakeryNightLaw" (some .boolean) room_1 7) (hs : lsS X b Ln xs) (hi : i + 6 ≤ Ln) (hk : k ≤ 601024 ∧ z ≤ 7293034) (h : TJ σ β Lb m B)
    (aft : LWaft X Qf o b i k z) : WO (xat X k z) Qf WW σ 890 (lL X b i) [] o := by
  have C := Cg k z hk.1 hk.2
  have hs : lsS (xat X k z) b Ln xs := hs
  have hb1 := i32_bd (xs (i + 1))
  have hb2 := i32_bd (xs (i + 2))
  obtain ⟨v, τ, υ, h1, h2, hT⟩ := KALL_I (r := m_X13_busy 4000000 (xs (i + 1)).toInt (xs (i + 2)).toInt) (CALL_8 h (SAME_8 (q_busy h.1.1 (Nat.le_refl 4000000) hb1.1 hb1.2 hb2.1 hb2.2)))
  refine x_aload_n C 1 dL_law_890 rfl rfl ?_
  refine x_aload_n C 0 dL_law_891 rfl rfl ?_
  refine x_iload C 4 dL_law_892 rfl ?_
  refine x_iconst C (1) dL_law_894 rfl ?_
  refine x_iadd C dL_law_895 ?_
  refine x_sld C hs (i + 1) (by omega) (by omega) dL_law_896 ?_
  refine x_aload_n C 0 dL_law_897 rfl rfl ?_
  refine x_iload C 4 dL_law_898 rfl ?_
  refine x_iconst C (2) dL_law_900 rfl ?_
  refine x_iadd C dL_law_901 ?_
  refine x_sld C hs (i + 2) (by omega) (by omega) dL_law_902 ?_
  refine x_callV C (ct_X12_busy _ _ 4000000 (xs (i + 1)).toInt (xs (i + 2)).toInt σ) mt_X12_busy vr_X12_busy wd1181 cls_X12 at_X12 rfl ⟨rfl, rfl, (Nat.le_of_ble_eq_true rfl), (Nat.le_of_ble_eq_true rfl)⟩ rfl (Nat.le_of_ble_eq_true rfl) dL_law_903 (kVal h1 ?_)
  refine x_aload_n C 2 dL_law_906 rfl rfl ?_
  refine x_aload_n C 0 dL_law_907 rfl rfl ?_
  refine x_iload C 4 dL_law_908 rfl ?_
  refine x_iconst C (1) dL_law_910 rfl ?_
  refine x_iadd C dL_law_911 ?_
  refine x_sld C hs (i + 1) (by omega) (by omega) dL_law_912 ?_
  refine x_aload_n C 0 dL_law_913 rfl rfl ?_
  refine x_iload C 4 dL_law_914 rfl ?_
  refine x_iconst C (2) dL_law_916 rfl ?_
  refine x_iadd C dL_law_917 ?_
  refine x_sld C hs (i + 2) (by omega) (by omega) dL_law_918 ?_
  refine x_callV C (ct_X13_busy _ _ 4000000 (xs (i + 1)).toInt (xs (i + 2)).toInt τ) mt_X13_busy vr_X13_busy wd2054 cls_X13 at_X13 rfl ⟨rfl, rfl, (Nat.le_of_ble_eq_true rfl), (Nat.le_of_ble_eq_true rfl)⟩ rfl (Nat.le_of_ble_eq_true rfl) dL_law_919 (kVal h2 ?_)
  exact x_icmp_eq C 1446 rfl rfl dL_law_922 rfl (fun _ => aft υ k z (Nat.le_refl _) (Nat.le_succ _) (Nat.le_refl _) (Nat.le_add_right _ _) hT) (fun c => absurd rfl c)
