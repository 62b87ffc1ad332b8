def m_L_isNight (n : Nat) (p2 : Int) (σ : xS) : Option (Int × xS) :=
  xbS (m_X12_simulate n p2 σ) fun v2 s1 => loopF (fun rec4 (t3 : Int × Int × Int) => (m_X12_batchCount n s1).bind fun v6 => if (zI v6) ≤ (zI t3.2.2) then (m_X12_spoiledCount n s1).bind fun v8 => xj (fun (q12 : Unit) => some (0, s1)) fun J10 => if (zI t3.1) = (zI v8) then (m_X12_bakingMinutes n 0 s1).bind fun v14 => if (zI t3.2.1) = (zI v14) then (m_X12_waitingMinutes n 0 s1).bind fun v16 => if (zI v16) < 0 then J10 () else (m_X12_waitingMinutes n 3 s1).bind fun v18 => if (zI v18) = (-1) then (m_X12_changingMinutes 1 s1).bind fun v20 => if (zI v20) = (-1) then loopF (fun rec23 (t22 : Int) => if 4 ≤ (zI t22) then (m_X12_batchDough 0 s1).bind fun v26 => xj (fun (q31 : Int) => xbo q31 (some (q31, s1))) fun J29 => xj (fun (q34 : Unit) => J29 0) fun J32 => if (zI v26) < 0 then J32 () else (m_X12_surplusValue n 0 s1).bind fun v36 => if (zI v36) = 0 then xj (fun (q41 : Unit) => J29 1) fun J39 => if 0 < (zI t3.1) then J39 () else (m_X12_surplusLoaves n 0 s1).bind fun v43 => (m_X12_orderedLoaves n 0 s1).bind fun v44 => if (zI (v43 + v44)) < 0 then J32 () else J39 () else J32 () else (m_X12_readyMinute t22 s1).bind fun v46 => xj (fun (q50 : Unit) => some (0, s1)) fun J48 => if (zI (v2 + 30)) < (zI v46) then J48 () else (m_X12_readyMinute t22 s1).bind fun v52 => xj (fun (q56 : Unit) => xlet (t22 + 1) fun v57 => rec23 v57) fun J54 => if (zI v52) < 0 then J54 () else (m_X12_readyMinute t22 s1).bind fun v59 => if (zI p2) ≤ (zI v59) then J54 () else J48 ()) n 0 else J10 () else J10 () else J10 () else J10 () else loopF (fun rec62 (t61 : Int × Int) => if 4 ≤ (zI t61.2) then (m_X12_ovenOf t3.2.2 s1).bind fun v65 => xlet (if (zI v65) = 0 then 1 else 0) fun v66 => (m_X12_stageMinute t3.2.2 5 s1).bind fun v67 => xlet (if (zI v67) < 0 then 0 else 1) fun v68 => xj (fun (q72 : Unit) => some (0, s1)) fun J70 => if (zI v66) = (zI v68) then (m_X12_stageMinute t3.2.2 4 s1).bind fun v74 => xlet (if (zI v74) < (zI t61.1) then 0 else 1) fun v75 => if (zI v66) = (zI v75) then if (zI v67) ≤ (zI v2) then xlet (if (zI v66) = 0 then 1 else 0) fun v78 => xlet (t3.1 + v78) fun v79 => xj (fun (q83 : Int) => xlet (t3.2.1 + q83) fun v84 => xj (fun (q88 : Unit) => xlet (t3.2.2 + 1) fun v89 => rec4 (v79, v84, v89)) fun J86 => if (zI t3.2.2) ≤ 0 then J86 () else (m_X12_stageMinute t3.2.2 0 s1).bind fun v91 => (m_X12_stageMinute (t3.2.2 - 1) 0 s1).bind fun v92 => if (zI v92) ≤ (zI v91) then J86 () else some (0, s1)) fun J81 => if (zI v66) = 0 then J81 0 else (m_X12_stageMinute t3.2.2 4 s1).bind fun v95 => J81 (v67 - v95) else J70 () else J70 () else J70 () else (m_X12_stageMinute t3.2.2 t61.2 s1).bind fun v104 => if (zI t61.1) ≤ (zI v104) then (m_X12_stageMinute t3.2.2 t61.2 s1).bind fun v106 => xlet (t61.2 + 1) fun v107 => rec62 (v106, v107) else some (0, s1)) n (p2, 0)) n (0, 0, 0)
set_option maxHeartbeats 4000000 in
set_option maxRecDepth 100000 in
theorem wk_L_isNight {X : xX} {Qf : (Int × xS) → State → Prop} {n : Nat} {p2 : Int} {σ : xS} (C : xCx X cL_isNight "BakeryNightLaw" (some .boolean) { frames := 7, cells := 0, slots := 0, locals := 161 } 9) (hQ : ∀ v τ, Qf (v, τ) = xQf X WW (some (iV v), τ))  : WO X Qf WW σ 0 [(0, .ref (xqa (xXE X).2.2 0)), (1, iV p2)] [] (m_L_isNight n p2 σ) := by
  unfold m_L_isNight
  refine x_aload_n C 0 dL_isNight_0 rfl rfl ?_
  refine x_iload_n C 1 dL_isNight_1 rfl rfl ?_
  refine x_callV C (ct_X12_simulate _ _ n p2 σ) mt_X12_simulate vr_X12_simulate wd648 cls_X12 at_X12 rfl ⟨rfl, rfl, Nat.le_of_ble_eq_true rfl, Nat.le_of_ble_eq_true rfl⟩ rfl (by decide) dL_isNight_2 (kS (fun v2 s1 => ?_))
  refine x_istore_n (L' := [(2, _), (0, _), (1, _)]) C dL_isNight_5 rfl (by decide) rfl ?_
  refine x_iconst C (0) dL_isNight_6 rfl ?_
  refine x_istore_n (L' := [(3, _), (2, _), (0, _), (1, _)]) C dL_isNight_7 rfl (by decide) rfl ?_
  refine x_iconst C (0) dL_isNight_8 rfl ?_
  refine x_istore (L' := [(4, _), (3, _), (2, _), (0, _), (1, _)]) C dL_isNight_9 (by decide) rfl ?_
  refine x_iconst C (0) dL_isNight_11 rfl ?_
  refine x_istore (L' := [(5, _), (4, _), (3, _), (2, _), (0, _), (1, _)]) C dL_isNight_12 (by decide) rfl ?_
  refine x_pick [4, 5, 3, 2, 1, 0] rfl ?_
  refine x_loop (fun t3 : Int × Int × Int => s1) (fun t3 : Int × Int × Int => [(0, .ref (xqa (xXE X).2.2 0)), (1, iV p2), (2, iV v2), (3, iV t3.1), (4, iV t3.2.1), (5, iV t3.2.2)]) (fun rec4 hr5 t3 => ?_) n (0, 0, 0)
  refine x_iload C 5 dL_isNight_14 rfl ?_
  refine x_aload_n C 0 dL_isNight_16 rfl rfl ?_
  refine x_callV C (ct_X12_batchCount _ _ n s1) mt_X12_batchCount vr_X12_batchCount wd612 cls_X12 at_X12 rfl ⟨rfl, rfl, Nat.le_of_ble_eq_true rfl, Nat.le_of_ble_eq_true rfl⟩ rfl (Nat.le_of_ble_eq_true rfl) dL_isNight_17 (kI (fun v6 => ?_))
  refine x_icmp_ge C 205 rfl rfl dL_isNight_20 rfl (fun c7 => x_op c7 ?_) (fun c7 => x_on c7 ?_)
  · refine x_iload_n C 3 dL_isNight_205 rfl rfl ?_
    refine x_aload_n C 0 dL_isNight_206 rfl rfl ?_
    refine x_callV C (ct_X12_spoiledCount _ _ n s1) mt_X12_spoiledCount vr_X12_spoiledCount wd752 cls_X12 at_X12 rfl ⟨rfl, rfl, Nat.le_of_ble_eq_true rfl, Nat.le_of_ble_eq_true rfl⟩ rfl (Nat.le_of_ble_eq_true rfl) dL_isNight_207 (kI (fun v8 => ?_))
    refine x_join (fun J => ∀ q12 : Unit, WO X Qf WW s1 249 [] [] (J q12)) ?_ ?_
    · intro q12
      refine x_iconst C (0) dL_isNight_249 rfl ?_
      exact x_zretQ C (hQ _ _) rfl (Or.inl rfl) dL_isNight_250
    · intro J10 hJ11
      refine x_icmp_ne C 249 rfl rfl dL_isNight_210 rfl (fun c13 => x_on c13 ?_) (fun c13 => x_op c13 ?_)
      · refine x_pick [] rfl ?_
        exact hJ11 ()
      · refine x_iload C 4 dL_isNight_213 rfl ?_
        refine x_aload_n C 0 dL_isNight_215 rfl rfl ?_
        refine x_iconst C (0) dL_isNight_216 rfl ?_
        refine x_callV C (ct_X12_bakingMinutes _ _ n 0 s1) mt_X12_bakingMinutes vr_X12_bakingMinutes wd1444 cls_X12 at_X12 rfl ⟨rfl, rfl, Nat.le_of_ble_eq_true rfl, Nat.le_of_ble_eq_true rfl⟩ rfl (Nat.le_of_ble_eq_true rfl) dL_isNight_217 (kI (fun v14 => ?_))
        refine x_icmp_ne C 249 rfl rfl dL_isNight_220 rfl (fun c15 => x_on c15 ?_) (fun c15 => x_op c15 ?_)
        · refine x_pick [] rfl ?_
          exact hJ11 ()
        · refine x_aload_n C 0 dL_isNight_223 rfl rfl ?_
          refine x_iconst C (0) dL_isNight_224 rfl ?_
          refine x_callV C (ct_X12_waitingMinutes _ _ n 0 s1) mt_X12_waitingMinutes vr_X12_waitingMinutes wd1456 cls_X12 at_X12 rfl ⟨rfl, rfl, Nat.le_of_ble_eq_true rfl, Nat.le_of_ble_eq_true rfl⟩ rfl (by decide) dL_isNight_225 (kI (fun v16 => ?_))
          refine x_if_lt C 249 rfl dL_isNight_228 rfl (fun c17 => x_op c17 ?_) (fun c17 => x_on c17 ?_)
          · refine x_pick [] rfl ?_
            exact hJ11 ()
          · refine x_aload_n C 0 dL_isNight_231 rfl rfl ?_
            refine x_iconst C (3) dL_isNight_232 rfl ?_
            refine x_callV C (ct_X12_waitingMinutes _ _ n 3 s1) mt_X12_waitingMinutes vr_X12_waitingMinutes wd1456 cls_X12 at_X12 rfl ⟨rfl, rfl, Nat.le_of_ble_eq_true rfl, Nat.le_of_ble_eq_true rfl⟩ rfl (by decide) dL_isNight_233 (kI (fun v18 => ?_))
            refine x_iconst C (-1) dL_isNight_236 rfl ?_
            refine x_icmp_ne C 249 rfl (zIl _ rfl) dL_isNight_237 rfl (fun c19 => x_on c19 ?_) (fun c19 => x_op c19 ?_)
            · refine x_pick [] rfl ?_
              exact hJ11 ()
            · refine x_aload_n C 0 dL_isNight_240 rfl rfl ?_
              refine x_iconst C (1) dL_isNight_241 rfl ?_
              refine x_callV C (ct_X12_changingMinutes _ _ 1 s1) mt_X12_changingMinutes vr_X12_changingMinutes wd1470 cls_X12 at_X12 rfl ⟨rfl, rfl, Nat.le_of_ble_eq_true rfl, Nat.le_of_ble_eq_true rfl⟩ rfl (by decide) dL_isNight_242 (kI (fun v20 => ?_))
              refine x_iconst C (-1) dL_isNight_245 rfl ?_
              refine x_icmp_eq C 251 rfl (zIl _ rfl) dL_isNight_246 rfl (fun c21 => x_op c21 ?_) (fun c21 => x_on c21 ?_)
              · refine x_iconst C (0) dL_isNight_251 rfl ?_
                refine x_istore (L' := [(5, _), (0, _), (1, _), (2, _), (3, _), (4, _)]) C dL_isNight_252 (by decide) rfl ?_
                refine x_pick [1, 2, 3, 4, 0] rfl ?_
                refine x_loop (fun t22 : Int => s1) (fun t22 : Int => [(0, .ref (xqa (xXE X).2.2 0)), (1, iV p2), (2, iV v2), (3, iV t3.1), (5, iV t22)]) (fun rec23 hr24 t22 => ?_) n 0
                refine x_iload C 4 dL_isNight_254 rfl ?_
                refine x_iconst C (4) dL_isNight_256 rfl ?_
                refine x_icmp_ge C 300 rfl (zIl _ rfl) dL_isNight_257 rfl (fun c25 => x_op c25 ?_) (fun c25 => x_on c25 ?_)
                · refine x_aload_n C 0 dL_isNight_300 rfl rfl ?_
                  refine x_iconst C (0) dL_isNight_301 rfl ?_
                  refine x_callV C (ct_X12_batchDough _ _ 0 s1) mt_X12_batchDough vr_X12_batchDough wd1479 cls_X12 at_X12 rfl ⟨rfl, rfl, Nat.le_of_ble_eq_true rfl, Nat.le_of_ble_eq_true rfl⟩ rfl (by decide) dL_isNight_302 (kI (fun v26 => ?_))
                  refine x_join (fun J => ∀ q31 : Int, WO X Qf WW s1 339 [] [iV q31] (J q31)) ?_ ?_
                  · intro q31
                    exact x_bo (fun hb => x_zretQ C (hQ _ _) rfl hb dL_isNight_339)
                  · intro J29 hJ30
                    refine x_join (fun J => ∀ q34 : Unit, WO X Qf WW s1 338 [] [] (J q34)) ?_ ?_
                    · intro q34
                      refine x_iconst C (0) dL_isNight_338 rfl ?_
                      refine x_pick [] rfl ?_
                      exact hJ30 0
                    · intro J32 hJ33
                      refine x_if_lt C 338 rfl dL_isNight_305 rfl (fun c35 => x_op c35 ?_) (fun c35 => x_on c35 ?_)
                      · refine x_pick [] rfl ?_
                        exact hJ33 ()
                      · refine x_aload_n C 0 dL_isNight_308 rfl rfl ?_
                        refine x_iconst C (0) dL_isNight_309 rfl ?_
                        refine x_callV C (ct_X12_surplusValue _ _ n 0 s1) mt_X12_surplusValue vr_X12_surplusValue wd1483 cls_X12 at_X12 rfl ⟨rfl, rfl, Nat.le_of_ble_eq_true rfl, Nat.le_of_ble_eq_true rfl⟩ rfl (by decide) dL_isNight_310 (kI (fun v36 => ?_))
                        refine x_if_ne C 338 rfl dL_isNight_313 rfl (fun c37 => x_on c37 ?_) (fun c37 => x_op c37 ?_)
                        · refine x_pick [] rfl ?_
                          exact hJ33 ()
                        · refine x_iload_n C 3 dL_isNight_316 rfl rfl ?_
                          refine x_join (fun J => ∀ q41 : Unit, WO X Qf WW s1 334 [] [] (J q41)) ?_ ?_
                          · intro q41
                            refine x_iconst C (1) dL_isNight_334 rfl ?_
                            refine x_goto C 339 dL_isNight_335 rfl ?_
                            refine x_pick [] rfl ?_
                            exact hJ30 1
                          · intro J39 hJ40
                            refine x_if_gt C 334 rfl dL_isNight_317 rfl (fun c42 => x_op c42 ?_) (fun c42 => x_on c42 ?_)
                            · refine x_pick [] rfl ?_
                              exact hJ40 ()
                            · refine x_aload_n C 0 dL_isNight_320 rfl rfl ?_
                              refine x_iconst C (0) dL_isNight_321 rfl ?_
                              refine x_callV C (ct_X12_surplusLoaves _ _ n 0 s1) mt_X12_surplusLoaves vr_X12_surplusLoaves wd1496 cls_X12 at_X12 rfl ⟨rfl, rfl, Nat.le_of_ble_eq_true rfl, Nat.le_of_ble_eq_true rfl⟩ rfl (by decide) dL_isNight_322 (kI (fun v43 => ?_))
                              refine x_aload_n C 0 dL_isNight_325 rfl rfl ?_
                              refine x_iconst C (0) dL_isNight_326 rfl ?_
                              refine x_callV C (ct_X12_orderedLoaves _ _ n 0 s1) mt_X12_orderedLoaves vr_X12_orderedLoaves wd1505 cls_X12 at_X12 rfl ⟨rfl, rfl, Nat.le_of_ble_eq_true rfl, Nat.le_of_ble_eq_true rfl⟩ rfl (Nat.le_of_ble_eq_true rfl) dL_isNight_327 (kI (fun v44 => ?_))
                              refine x_iadd C dL_isNight_330 ?_
                              refine x_if_lt C 338 rfl dL_isNight_331 rfl (fun c45 => x_op c45 ?_) (fun c45 => x_on c45 ?_)
                              · refine x_pick [] rfl ?_
                                exact hJ33 ()
                              · refine x_pick [] rfl ?_
                                exact hJ40 ()
                · refine x_aload_n C 0 dL_isNight_260 rfl rfl ?_
                  refine x_iload C 4 dL_isNight_261 rfl ?_
                  refine x_callV C (ct_X12_readyMinute _ _ t22 s1) mt_X12_readyMinute vr_X12_readyMinute wd1474 cls_X12 at_X12 rfl ⟨rfl, rfl, Nat.le_of_ble_eq_true rfl, Nat.le_of_ble_eq_true rfl⟩ rfl (by decide) dL_isNight_263 (kI (fun v46 => ?_))
                  refine x_iload_n C 2 dL_isNight_266 rfl rfl ?_
                  refine x_bipush C (30) dL_isNight_267 rfl ?_
                  refine x_iadd C dL_isNight_269 ?_
                  refine x_join (fun J => ∀ q50 : Unit, WO X Qf WW s1 292 [] [] (J q50)) ?_ ?_
                  · intro q50
                    refine x_iconst C (0) dL_isNight_292 rfl ?_
                    exact x_zretQ C (hQ _ _) rfl (Or.inl rfl) dL_isNight_293
                  · intro J48 hJ49
                    refine x_icmp_gt C 292 rfl rfl dL_isNight_270 rfl (fun c51 => x_op c51 ?_) (fun c51 => x_on c51 ?_)
                    · refine x_pick [] rfl ?_
                      exact hJ49 ()
                    · refine x_aload_n C 0 dL_isNight_273 rfl rfl ?_
                      refine x_iload C 4 dL_isNight_274 rfl ?_
                      refine x_callV C (ct_X12_readyMinute _ _ t22 s1) mt_X12_readyMinute vr_X12_readyMinute wd1474 cls_X12 at_X12 rfl ⟨rfl, rfl, Nat.le_of_ble_eq_true rfl, Nat.le_of_ble_eq_true rfl⟩ rfl (by decide) dL_isNight_276 (kI (fun v52 => ?_))
                      refine x_join (fun J => ∀ q56 : Unit, WO X Qf WW s1 294 [(0, .ref (xqa (xXE X).2.2 0)), (1, iV p2), (2, iV v2), (3, iV t3.1), (5, iV t22)] [] (J q56)) ?_ ?_
                      · intro q56
                        refine x_inc C 4 (f := _) dL_isNight_294 rfl (by decide) (1) rfl (fun v57 => ?_)
                        refine x_reL (L' := [(5, _), (0, _), (1, _), (2, _), (3, _)]) rfl ?_
                        refine x_goto C 254 dL_isNight_297 rfl ?_
                        refine x_pick [1, 2, 3, 4, 0] rfl ?_
                        exact hr24 v57
                      · intro J54 hJ55
                        refine x_if_lt C 294 rfl dL_isNight_279 rfl (fun c58 => x_op c58 ?_) (fun c58 => x_on c58 ?_)
                        · refine x_pick [0, 1, 2, 3, 4] rfl ?_
                          exact hJ55 ()
                        · refine x_aload_n C 0 dL_isNight_282 rfl rfl ?_
                          refine x_iload C 4 dL_isNight_283 rfl ?_
                          refine x_callV C (ct_X12_readyMinute _ _ t22 s1) mt_X12_readyMinute vr_X12_readyMinute wd1474 cls_X12 at_X12 rfl ⟨rfl, rfl, Nat.le_of_ble_eq_true rfl, Nat.le_of_ble_eq_true rfl⟩ rfl (by decide) dL_isNight_285 (kI (fun v59 => ?_))
                          refine x_iload_n C 1 dL_isNight_288 rfl rfl ?_
                          refine x_icmp_ge C 294 rfl rfl dL_isNight_289 rfl (fun c60 => x_op c60 ?_) (fun c60 => x_on c60 ?_)
                          · refine x_pick [0, 1, 2, 3, 4] rfl ?_
                            exact hJ55 ()
                          · refine x_pick [] rfl ?_
                            exact hJ49 ()
              · refine x_pick [] rfl ?_
                exact hJ11 ()
  · refine x_iload_n C 1 dL_isNight_23 rfl rfl ?_
    refine x_istore (L' := [(6, _), (0, _), (1, _), (2, _), (3, _), (4, _), (5, _)]) C dL_isNight_24 (by decide) rfl ?_
    refine x_iconst C (0) dL_isNight_26 rfl ?_
    refine x_istore (L' := [(7, _), (6, _), (0, _), (1, _), (2, _), (3, _), (4, _), (5, _)]) C dL_isNight_27 (by decide) rfl ?_
    refine x_pick [2, 3, 4, 5, 6, 7, 1, 0] rfl ?_
    refine x_loop (fun t61 : Int × Int => s1) (fun t61 : Int × Int => [(0, .ref (xqa (xXE X).2.2 0)), (1, iV p2), (2, iV v2), (3, iV t3.1), (4, iV t3.2.1), (5, iV t3.2.2), (6, iV t61.1), (7, iV t61.2)]) (fun rec62 hr63 t61 => ?_) n (p2, 0)
    refine x_iload C 7 dL_isNight_29 rfl ?_
    refine x_iconst C (4) dL_isNight_31 rfl ?_
    refine x_icmp_ge C 66 rfl (zIl _ rfl) dL_isNight_32 rfl (fun c64 => x_op c64 ?_) (fun c64 => x_on c64 ?_)
    · refine x_aload_n C 0 dL_isNight_66 rfl rfl ?_
      refine x_iload C 5 dL_isNight_67 rfl ?_
      refine x_callV C (ct_X12_ovenOf _ _ t3.2.2 s1) mt_X12_ovenOf vr_X12_ovenOf wd1440 cls_X12 at_X12 rfl ⟨rfl, rfl, Nat.le_of_ble_eq_true rfl, Nat.le_of_ble_eq_true rfl⟩ rfl (by decide) dL_isNight_69 (kI (fun v65 => ?_))
      refine x_tree 80 [] (fun v66 => ?_) (fun hJ102 => ?_)
      · refine x_istore (L' := [(7, _), (0, _), (1, _), (2, _), (3, _), (4, _), (5, _), (6, _)]) C dL_isNight_80 (by decide) rfl ?_
        refine x_aload_n C 1 dL_isNight_82 rfl rfl ?_
        refine x_iload C 6 dL_isNight_83 rfl ?_
        refine x_iconst C (5) dL_isNight_85 rfl ?_
        refine x_callV C (ct_X12_stageMinute _ _ t3.2.2 5 s1) mt_X12_stageMinute vr_X12_stageMinute wd1349 cls_X12 at_X12 rfl ⟨rfl, rfl, Nat.le_of_ble_eq_true rfl, Nat.le_of_ble_eq_true rfl⟩ rfl (by decide) dL_isNight_86 (kI (fun v67 => ?_))
        refine x_istore (L' := [(8, _), (7, _), (0, _), (1, _), (2, _), (3, _), (4, _), (5, _), (6, _)]) C dL_isNight_89 (by decide) rfl ?_
        refine x_iload C 1 dL_isNight_91 rfl ?_
        refine x_iload C 0 dL_isNight_93 rfl ?_
        refine x_tree 103 [iV v66] (fun v68 => ?_) (fun hJ100 => ?_)
        · refine x_join (fun J => ∀ q72 : Unit, WO X Qf WW s1 134 [] [] (J q72)) ?_ ?_
          · intro q72
            refine x_iconst C (0) dL_isNight_134 rfl ?_
            exact x_zretQ C (hQ _ _) rfl (Or.inl rfl) dL_isNight_135
          · intro J70 hJ71
            refine x_icmp_ne C 134 rfl rfl dL_isNight_103 rfl (fun c73 => x_on c73 ?_) (fun c73 => x_op c73 ?_)
            · refine x_pick [] rfl ?_
              exact hJ71 ()
            · refine x_iload C 1 dL_isNight_106 rfl ?_
              refine x_aload_n C 2 dL_isNight_108 rfl rfl ?_
              refine x_iload C 7 dL_isNight_109 rfl ?_
              refine x_iconst C (4) dL_isNight_111 rfl ?_
              refine x_callV C (ct_X12_stageMinute _ _ t3.2.2 4 s1) mt_X12_stageMinute vr_X12_stageMinute wd1349 cls_X12 at_X12 rfl ⟨rfl, rfl, Nat.le_of_ble_eq_true rfl, Nat.le_of_ble_eq_true rfl⟩ rfl (Nat.le_of_ble_eq_true rfl) dL_isNight_112 (kI (fun v74 => ?_))
              refine x_iload C 8 dL_isNight_115 rfl ?_
              refine x_tree 125 [iV v66] (fun v75 => ?_) (fun hJ98 => ?_)
              · refine x_icmp_ne C 134 rfl rfl dL_isNight_125 rfl (fun c76 => x_on c76 ?_) (fun c76 => x_op c76 ?_)
                · refine x_pick [] rfl ?_
                  exact hJ71 ()
                · refine x_iload C 0 dL_isNight_128 rfl ?_
                  refine x_iload_n C 4 dL_isNight_130 rfl rfl ?_
                  refine x_icmp_le C 136 rfl rfl dL_isNight_131 rfl (fun c77 => x_op c77 ?_) (fun c77 => x_on c77 ?_)
                  · refine x_iload_n C 5 dL_isNight_136 rfl rfl ?_
                    refine x_iload C 1 dL_isNight_137 rfl ?_
                    refine x_tree 147 [iV t3.1] (fun v78 => ?_) (fun hJ96 => ?_)
                    · refine x_iadd C dL_isNight_147 ?_
                      refine x_letI (fun v79 => ?_)
                      refine x_istore_n (L' := [(3, _), (8, _), (7, _), (0, _), (1, _), (2, _), (4, _), (5, _), (6, _)]) C dL_isNight_148 rfl (by decide) rfl ?_
                      refine x_iload C 6 dL_isNight_149 rfl ?_
                      refine x_iload C 2 dL_isNight_151 rfl ?_
                      refine x_join (fun J => ∀ q83 : Int, WO X Qf WW s1 170 [(0, .ref (xqa (xXE X).2.2 0)), (1, iV p2), (2, iV v2), (3, iV v79), (5, iV t3.2.2)] [iV q83, iV t3.2.1] (J q83)) ?_ ?_
                      · intro q83
                        refine x_iadd C dL_isNight_170 ?_
                        refine x_letI (fun v84 => ?_)
                        refine x_istore (L' := [(4, _), (0, _), (1, _), (2, _), (3, _), (5, _)]) C dL_isNight_171 (by decide) rfl ?_
                        refine x_iload C 5 dL_isNight_173 rfl ?_
                        refine x_join (fun J => ∀ q88 : Unit, WO X Qf WW s1 199 [(0, .ref (xqa (xXE X).2.2 0)), (1, iV p2), (2, iV v2), (3, iV v79), (4, iV v84), (5, iV t3.2.2)] [] (J q88)) ?_ ?_
                        · intro q88
                          refine x_inc C 5 (f := _) dL_isNight_199 rfl (by decide) (1) rfl (fun v89 => ?_)
                          refine x_reL (L' := [(5, _), (0, _), (1, _), (2, _), (3, _), (4, _)]) rfl ?_
                          refine x_goto C 14 dL_isNight_202 rfl ?_
                          refine x_pick [1, 2, 3, 4, 5, 0] rfl ?_
                          exact hr5 (v79, v84, v89)
                        · intro J86 hJ87
                          refine x_if_le C 199 rfl dL_isNight_175 rfl (fun c90 => x_op c90 ?_) (fun c90 => x_on c90 ?_)
                          · refine x_pick [1, 2, 3, 4, 0, 5] rfl ?_
                            exact hJ87 ()
                          · refine x_aload_n C 1 dL_isNight_178 rfl rfl ?_
                            refine x_iload C 5 dL_isNight_179 rfl ?_
                            refine x_iconst C (0) dL_isNight_181 rfl ?_
                            refine x_callV C (ct_X12_stageMinute _ _ t3.2.2 0 s1) mt_X12_stageMinute vr_X12_stageMinute wd1349 cls_X12 at_X12 rfl ⟨rfl, rfl, Nat.le_of_ble_eq_true rfl, Nat.le_of_ble_eq_true rfl⟩ rfl (by decide) dL_isNight_182 (kI (fun v91 => ?_))
                            refine x_aload_n C 1 dL_isNight_185 rfl rfl ?_
                            refine x_iload C 5 dL_isNight_186 rfl ?_
                            refine x_iconst C (1) dL_isNight_188 rfl ?_
                            refine x_isub C dL_isNight_189 ?_
                            refine x_iconst C (0) dL_isNight_190 rfl ?_
                            refine x_callV C (ct_X12_stageMinute _ _ (t3.2.2 - 1) 0 s1) mt_X12_stageMinute vr_X12_stageMinute wd1349 cls_X12 at_X12 rfl ⟨rfl, rfl, Nat.le_of_ble_eq_true rfl, Nat.le_of_ble_eq_true rfl⟩ rfl (Nat.le_of_ble_eq_true rfl) dL_isNight_191 (kI (fun v92 => ?_))
                            refine x_icmp_ge C 199 rfl rfl dL_isNight_194 rfl (fun c93 => x_op c93 ?_) (fun c93 => x_on c93 ?_)
                            · refine x_pick [1, 2, 3, 4, 0, 5] rfl ?_
                              exact hJ87 ()
                            · refine x_iconst C (0) dL_isNight_197 rfl ?_
                              exact x_zretQ C (hQ _ _) rfl (Or.inl rfl) dL_isNight_198
                      · intro J81 hJ82
                        refine x_if_eq C 169 rfl dL_isNight_153 rfl (fun c94 => x_op c94 ?_) (fun c94 => x_on c94 ?_)
                        · refine x_iconst C (0) dL_isNight_169 rfl ?_
                          refine x_pick [3, 4, 5, 0, 7] rfl ?_
                          exact hJ82 0
                        · refine x_iload C 1 dL_isNight_156 rfl ?_
                          refine x_aload_n C 3 dL_isNight_158 rfl rfl ?_
                          refine x_iload C 7 dL_isNight_159 rfl ?_
                          refine x_iconst C (4) dL_isNight_161 rfl ?_
                          refine x_callV C (ct_X12_stageMinute _ _ t3.2.2 4 s1) mt_X12_stageMinute vr_X12_stageMinute wd1349 cls_X12 at_X12 rfl ⟨rfl, rfl, Nat.le_of_ble_eq_true rfl, Nat.le_of_ble_eq_true rfl⟩ rfl (Nat.le_of_ble_eq_true rfl) dL_isNight_162 (kI (fun v95 => ?_))
                          refine x_isub C dL_isNight_165 ?_
                          refine x_goto C 170 dL_isNight_166 rfl ?_
                          refine x_pick [3, 4, 5, 0, 7] rfl ?_
                          exact hJ82 (v67 - v95)
                    · refine x_if_eq C 146 rfl dL_isNight_139 rfl (fun c97 => ?_) (fun c97 => ?_)
                      · refine x_iconst C (1) dL_isNight_146 rfl ?_
                        exact hJ96 _ (by rw [if_pos c97])
                      · refine x_iconst C (0) dL_isNight_142 rfl ?_
                        refine x_goto C 147 dL_isNight_143 rfl ?_
                        exact hJ96 _ (by rw [if_neg c97])
                  · refine x_pick [] rfl ?_
                    exact hJ71 ()
              · refine x_icmp_lt C 124 rfl rfl dL_isNight_117 rfl (fun c99 => ?_) (fun c99 => ?_)
                · refine x_iconst C (0) dL_isNight_124 rfl ?_
                  exact hJ98 _ (by rw [if_pos c99])
                · refine x_iconst C (1) dL_isNight_120 rfl ?_
                  refine x_goto C 125 dL_isNight_121 rfl ?_
                  exact hJ98 _ (by rw [if_neg c99])
        · refine x_if_lt C 102 rfl dL_isNight_95 rfl (fun c101 => ?_) (fun c101 => ?_)
          · refine x_iconst C (0) dL_isNight_102 rfl ?_
            exact hJ100 _ (by rw [if_pos c101])
          · refine x_iconst C (1) dL_isNight_98 rfl ?_
            refine x_goto C 103 dL_isNight_99 rfl ?_
            exact hJ100 _ (by rw [if_neg c101])
      · refine x_if_ne C 79 rfl dL_isNight_72 rfl (fun c103 => ?_) (fun c103 => ?_)
        · refine x_iconst C (0) dL_isNight_79 rfl ?_
          exact hJ102 _ (by rw [if_neg c103])
        · refine x_iconst C (1) dL_isNight_75 rfl ?_
          refine x_goto C 80 dL_isNight_76 rfl ?_
          exact hJ102 _ (by rw [if_pos c103])
    · refine x_aload_n C 0 dL_isNight_35 rfl rfl ?_
      refine x_iload C 5 dL_isNight_36 rfl ?_
      refine x_iload C 7 dL_isNight_38 rfl ?_
      refine x_callV C (ct_X12_stageMinute _ _ t3.2.2 t61.2 s1) mt_X12_stageMinute vr_X12_stageMinute wd1349 cls_X12 at_X12 rfl ⟨rfl, rfl, Nat.le_of_ble_eq_true rfl, Nat.le_of_ble_eq_true rfl⟩ rfl (by decide) dL_isNight_40 (kI (fun v104 => ?_))
      refine x_iload C 6 dL_isNight_43 rfl ?_
      refine x_icmp_ge C 50 rfl rfl dL_isNight_45 rfl (fun c105 => x_op c105 ?_) (fun c105 => x_on c105 ?_)
      · refine x_aload_n C 0 dL_isNight_50 rfl rfl ?_
        refine x_iload C 5 dL_isNight_51 rfl ?_
        refine x_iload C 7 dL_isNight_53 rfl ?_
        refine x_callV C (ct_X12_stageMinute _ _ t3.2.2 t61.2 s1) mt_X12_stageMinute vr_X12_stageMinute wd1349 cls_X12 at_X12 rfl ⟨rfl, rfl, Nat.le_of_ble_eq_true rfl, Nat.le_of_ble_eq_true rfl⟩ rfl (by decide) dL_isNight_55 (kI (fun v106 => ?_))
        refine x_istore (L' := [(6, _), (0, _), (1, _), (2, _), (3, _), (4, _), (5, _), (7, _)]) C dL_isNight_58 (by decide) rfl ?_
        refine x_inc C 7 (f := _) dL_isNight_60 rfl (by decide) (1) rfl (fun v107 => ?_)
        refine x_reL (L' := [(7, _), (6, _), (0, _), (1, _), (2, _), (3, _), (4, _), (5, _)]) rfl ?_
        refine x_goto C 29 dL_isNight_63 rfl ?_
        refine x_pick [2, 3, 4, 5, 6, 7, 1, 0] rfl ?_
        exact hr63 (v106, v107)
      · refine x_iconst C (0) dL_isNight_48 rfl ?_
        exact x_zretQ C (hQ _ _) rfl (Or.inl rfl) dL_isNight_49
theorem ct_L_isNight (l : Launch) (E : xE) (n : Nat) (p2 : Int) (σ : xS)   : xMet l E yL_isNight cL_isNight 9 (some .boolean) { frames := 7, cells := 0, slots := 0, locals := 161 } [.ref (xqa E.2.2 0), iV p2] WW WW σ (xrS (m_L_isNight n p2 σ)) := by
  refine xMet.of0 (by decide) (Nat.le_of_ble_eq_true rfl) rfl rfl (fun X hE C => ?_)
  subst hE
  exact xMap (fun q => (some (iV q.1), q.2)) (wk_L_isNight C (fun _ _ => rfl) )
theorem mt_L_isNight : xMth yL_isNight cL_isNight 9 (some .boolean) 2 := ⟨wd1348, wd48, ⟨by decide, by decide, rfl⟩⟩
theorem st_L_isNight : Cond.static yL_isNight ∈ GW := wd1347
