/-! the law: its cases but those of the throwers, the rest -/
set_option maxHeartbeats 4000000 in
set_option maxRecDepth 100000 in
theorem lc_busiestMinute {ρ : Type} {X : xX} {Qf : ρ → State → Prop} {o : Option ρ} {σ : xS} {b Ln i k z m Lb : Nat} {xs : Nat → Int32} {β : Nat → Int} {B : Nat → Nat → Int} (Cg : xCg X cL_law "BakeryNightLaw" (some .boolean) room_1 7) (hs : lsS X b Ln xs) (hi : i + 6 ≤ Ln) (hk : k ≤ 601024 ∧ z ≤ 7293034) (h : TJ σ β Lb m B)
    (aft : LWaft X Qf o b i k z) : WO (xat X k z) Qf WW σ 927 (lL X b i) [] o := by
  have C := Cg k z hk.1 hk.2
  have hs : lsS (xat X k z) b Ln xs := hs
  have hb1 := i32_bd (xs (i + 1))
  obtain ⟨v, τ, υ, h1, h2, hT⟩ := KALL_I (r := m_X13_busiestMinute 4000000 (xs (i + 1)).toInt) (CALL_8 h (SAME_8 (q_busiestMinute h.1.1 (Nat.le_refl 4000000) hb1.1 hb1.2)))
  refine x_aload_n C 1 dL_law_927 rfl rfl ?_
  refine x_aload_n C 0 dL_law_928 rfl rfl ?_
  refine x_iload C 4 dL_law_929 rfl ?_
  refine x_iconst C (1) dL_law_931 rfl ?_
  refine x_iadd C dL_law_932 ?_
  refine x_sld C hs (i + 1) (by omega) (by omega) dL_law_933 ?_
  refine x_callV C (ct_X12_busiestMinute _ _ 4000000 (xs (i + 1)).toInt σ) mt_X12_busiestMinute vr_X12_busiestMinute wd1187 cls_X12 at_X12 rfl ⟨rfl, rfl, (Nat.le_of_ble_eq_true rfl), (Nat.le_of_ble_eq_true rfl)⟩ rfl (Nat.le_of_ble_eq_true rfl) dL_law_934 (kVal h1 ?_)
  refine x_aload_n C 2 dL_law_937 rfl rfl ?_
  refine x_aload_n C 0 dL_law_938 rfl rfl ?_
  refine x_iload C 4 dL_law_939 rfl ?_
  refine x_iconst C (1) dL_law_941 rfl ?_
  refine x_iadd C dL_law_942 ?_
  refine x_sld C hs (i + 1) (by omega) (by omega) dL_law_943 ?_
  refine x_callV C (ct_X13_busiestMinute _ _ 4000000 (xs (i + 1)).toInt τ) mt_X13_busiestMinute vr_X13_busiestMinute wd2063 cls_X13 at_X13 rfl ⟨rfl, rfl, (Nat.le_of_ble_eq_true rfl), (Nat.le_of_ble_eq_true rfl)⟩ rfl (Nat.le_of_ble_eq_true rfl) dL_law_944 (kVal h2 ?_)
  exact x_icmp_eq C 1446 rfl rfl dL_law_947 rfl (fun _ => aft υ k z (Nat.le_refl _) (Nat.le_succ _) (Nat.le_refl _) (Nat.le_add_right _ _) hT) (fun c => absurd rfl c)
set_option maxHeartbeats 4000000 in
set_option maxRecDepth 100000 in
theorem lc_readyMinute {ρ : Type} {X : xX} {Qf : ρ → State → Prop} {o : Option ρ} {σ : xS} {b Ln i k z m Lb : Nat} {xs : Nat → Int32} {β : Nat → Int} {B : Nat → Nat → Int} (Cg : xCg X cL_law "BakeryNightLaw" (some .boolean) room_1 7) (hs : lsS X b Ln xs) (hi : i + 6 ≤ Ln) (hk : k ≤ 601024 ∧ z ≤ 7293034) (h : TJ σ β Lb m B)
    (aft : LWaft X Qf o b i k z) : WO (xat X k z) Qf WW σ 952 (lL X b i) [] o := by
  have C := Cg k z hk.1 hk.2
  have hs : lsS (xat X k z) b Ln xs := hs
  have hb1 := i32_bd (xs (i + 1))
  obtain ⟨v, τ, υ, h1, h2, hT⟩ := KALL_I (r := m_X13_readyMinute 4000000 (xs (i + 1)).toInt) (CALL_8 h (SAME_8 (q_readyMinute h.1.1 (Nat.le_refl 4000000) hb1.1 hb1.2)))
  refine x_aload_n C 1 dL_law_952 rfl rfl ?_
  refine x_aload_n C 0 dL_law_953 rfl rfl ?_
  refine x_iload C 4 dL_law_954 rfl ?_
  refine x_iconst C (1) dL_law_956 rfl ?_
  refine x_iadd C dL_law_957 ?_
  refine x_sld C hs (i + 1) (by omega) (by omega) dL_law_958 ?_
  refine x_callV C (ct_X12_readyMinute _ _ (xs (i + 1)).toInt σ) mt_X12_readyMinute vr_X12_readyMinute wd1195 cls_X12 at_X12 rfl ⟨rfl, rfl, (Nat.le_of_ble_eq_true rfl), (Nat.le_of_ble_eq_true rfl)⟩ rfl (Nat.le_of_ble_eq_true rfl) dL_law_959 (kVal h1 ?_)
  refine x_aload_n C 2 dL_law_962 rfl rfl ?_
  refine x_aload_n C 0 dL_law_963 rfl rfl ?_
  refine x_iload C 4 dL_law_964 rfl ?_
  refine x_iconst C (1) dL_law_966 rfl ?_
  refine x_iadd C dL_law_967 ?_
  refine x_sld C hs (i + 1) (by omega) (by omega) dL_law_968 ?_
  refine x_callV C (ct_X13_readyMinute _ _ 4000000 (xs (i + 1)).toInt τ) mt_X13_readyMinute vr_X13_readyMinute wd2067 cls_X13 at_X13 rfl ⟨rfl, rfl, (Nat.le_of_ble_eq_true rfl), (Nat.le_of_ble_eq_true rfl)⟩ rfl (Nat.le_of_ble_eq_true rfl) dL_law_969 (kVal h2 ?_)
  exact x_icmp_eq C 1446 rfl rfl dL_law_972 rfl (fun _ => aft υ k z (Nat.le_refl _) (Nat.le_succ _) (Nat.le_refl _) (Nat.le_add_right _ _) hT) (fun c => absurd rfl c)
set_option maxHeartbeats 4000000 in
set_option maxRecDepth 100000 in
theorem lc_surplusLoaves {ρ : Type} {X : xX} {Qf : ρ → State → Prop} {o : Option ρ} {σ : xS} {b Ln i k z m Lb : Nat} {xs : Nat → Int32} {β : Nat → Int} {B : Nat → Nat → Int} (Cg : xCg X cL_law "BakeryNightLaw" (some .boolean) room_1 7) (hs : lsS X b Ln xs) (hi : i + 6 ≤ Ln) (hk : k ≤ 601024 ∧ z ≤ 7293034) (h : TJ σ β Lb m B)
    (aft : LWaft X Qf o b i k z) : WO (xat X k z) Qf WW σ 977 (lL X b i) [] o := by
  have C := Cg k z hk.1 hk.2
  have hs : lsS (xat X k z) b Ln xs := hs
  have hb1 := i32_bd (xs (i + 1))
  obtain ⟨v, τ, υ, h1, h2, hT⟩ := KALL_I (r := m_X13_surplusLoaves 4000000 (xs (i + 1)).toInt) (CALL_8 h (SAME_8 (q_surplusLoaves h.1.1 (Nat.le_refl 4000000) hb1.1 hb1.2)))
  refine x_aload_n C 1 dL_law_977 rfl rfl ?_
  refine x_aload_n C 0 dL_law_978 rfl rfl ?_
  refine x_iload C 4 dL_law_979 rfl ?_
  refine x_iconst C (1) dL_law_981 rfl ?_
  refine x_iadd C dL_law_982 ?_
  refine x_sld C hs (i + 1) (by omega) (by omega) dL_law_983 ?_
  refine x_callV C (ct_X12_surplusLoaves _ _ 4000000 (xs (i + 1)).toInt σ) mt_X12_surplusLoaves vr_X12_surplusLoaves wd1200 cls_X12 at_X12 rfl ⟨rfl, rfl, (Nat.le_of_ble_eq_true rfl), (Nat.le_of_ble_eq_true rfl)⟩ rfl (Nat.le_of_ble_eq_true rfl) dL_law_984 (kVal h1 ?_)
  refine x_aload_n C 2 dL_law_987 rfl rfl ?_
  refine x_aload_n C 0 dL_law_988 rfl rfl ?_
  refine x_iload C 4 dL_law_989 rfl ?_
  refine x_iconst C (1) dL_law_991 rfl ?_
  refine x_iadd C dL_law_992 ?_
  refine x_sld C hs (i + 1) (by omega) (by omega) dL_law_993 ?_
  refine x_callV C (ct_X13_surplusLoaves _ _ 4000000 (xs (i + 1)).toInt τ) mt_X13_surplusLoaves vr_X13_surplusLoaves wd2095 cls_X13 at_X13 rfl ⟨rfl, rfl, (Nat.le_of_ble_eq_true rfl), (Nat.le_of_ble_eq_true rfl)⟩ rfl (Nat.le_of_ble_eq_true rfl) dL_law_994 (kVal h2 ?_)
  exact x_icmp_eq C 1446 rfl rfl dL_law_997 rfl (fun _ => aft υ k z (Nat.le_refl _) (Nat.le_succ _) (Nat.le_refl _) (Nat.le_add_right _ _) hT) (fun c => absurd rfl c)
set_option maxHeartbeats 4000000 in
set_option maxRecDepth 100000 in
theorem lc_surplusValue {ρ : Type} {X : xX} {Qf : ρ → State → Prop} {o : Option ρ} {σ : xS} {b Ln i k z m Lb : Nat} {xs : Nat → Int32} {β : Nat → Int} {B : Nat → Nat → Int} (Cg : xCg X cL_law "BakeryNightLaw" (some .boolean) room_1 7) (hs : lsS X b Ln xs) (hi : i + 6 ≤ Ln) (hk : k ≤ 601024 ∧ z ≤ 7293034) (h : TJ σ β Lb m B)
    (aft : LWaft X Qf o b i k z) : WO (xat X k z) Qf WW σ 1002 (lL X b i) [] o := by
  have C := Cg k z hk.1 hk.2
  have hs : lsS (xat X k z) b Ln xs := hs
  have hb1 := i32_bd (xs (i + 1))
  obtain ⟨v, τ, υ, h1, h2, hT⟩ := KALL_I (r := m_X13_surplusValue 4000000 (xs (i + 1)).toInt) (CALL_8 h (SAME_8 (q_surplusValue h.1.1 (Nat.le_refl 4000000) hb1.1 hb1.2)))
  refine x_aload_n C 1 dL_law_1002 rfl rfl ?_
  refine x_aload_n C 0 dL_law_1003 rfl rfl ?_
  refine x_iload C 4 dL_law_1004 rfl ?_
  refine x_iconst C (1) dL_law_1006 rfl ?_
  refine x_iadd C dL_law_1007 ?_
  refine x_sld C hs (i + 1) (by omega) (by omega) dL_law_1008 ?_
  refine x_callV C (ct_X12_surplusValue _ _ 4000000 (xs (i + 1)).toInt σ) mt_X12_surplusValue vr_X12_surplusValue wd1209 cls_X12 at_X12 rfl ⟨rfl, rfl, (Nat.le_of_ble_eq_true rfl), (Nat.le_of_ble_eq_true rfl)⟩ rfl (Nat.le_of_ble_eq_true rfl) dL_law_1009 (kVal h1 ?_)
  refine x_aload_n C 2 dL_law_1012 rfl rfl ?_
  refine x_aload_n C 0 dL_law_1013 rfl rfl ?_
  refine x_iload C 4 dL_law_1014 rfl ?_
  refine x_iconst C (1) dL_law_1016 rfl ?_
  refine x_iadd C dL_law_1017 ?_
  refine x_sld C hs (i + 1) (by omega) (by omega) dL_law_1018 ?_
  refine x_callV C (ct_X13_surplusValue _ _ 4000000 (xs (i + 1)).toInt τ) mt_X13_surplusValue vr_X13_surplusValue wd2099 cls_X13 at_X13 rfl ⟨rfl, rfl, (Nat.le_of_ble_eq_true rfl), (Nat.le_of_ble_eq_true rfl)⟩ rfl (Nat.le_of_ble_eq_true rfl) dL_law_1019 (kVal h2 ?_)
  exact x_icmp_eq C 1446 rfl rfl dL_law_1022 rfl (fun _ => aft υ k z (Nat.le_refl _) (Nat.le_succ _) (Nat.le_refl _) (Nat.le_add_right _ _) hT) (fun c => absurd rfl c)
set_option maxHeartbeats 4000000 in
set_option maxRecDepth 100000 in
theorem lc_failedShops {ρ : Type} {X : xX} {Qf : ρ → State → Prop} {o : Option ρ} {σ : xS} {b Ln i k z m Lb : Nat} {xs : Nat → Int32} {β : Nat → Int} {B : Nat → Nat → Int} (Cg : xCg X cL_law "BakeryNightLaw" (some .boolean) room_1 7) (hs : lsS X b Ln xs) (hi : i + 6 ≤ Ln) (hk : k ≤ 601024 ∧ z ≤ 7293034) (h : TJ σ β Lb m B)
    (aft : LWaft X Qf o b i k z) : WO (xat X k z) Qf WW σ 1027 (lL X b i) [] o := by
  have C := Cg k z hk.1 hk.2
  have hs : lsS (xat X k z) b Ln xs := hs
  obtain ⟨v, τ, υ, h1, h2, hT⟩ := KALL_S (r := m_X13_failedShops 4000000) (CALL_3 h (BOTH_3 (BOTH_2 (q_failedShops h.1 (Nat.le_refl 4000000) ))))
  refine x_aload_n C 1 dL_law_1027 rfl rfl ?_
  refine x_callV C (ct_X12_failedShops _ _ 4000000 σ) mt_X12_failedShops vr_X12_failedShops wd1218 cls_X12 at_X12 rfl ⟨rfl, rfl, (Nat.le_of_ble_eq_true rfl), (Nat.le_of_ble_eq_true rfl)⟩ rfl (Nat.le_of_ble_eq_true rfl) dL_law_1028 (kVal h1 ?_)
  refine x_aload_n C 2 dL_law_1031 rfl rfl ?_
  refine x_callV C (ct_X13_failedShops _ _ 4000000 τ) mt_X13_failedShops vr_X13_failedShops wd2141 cls_X13 at_X13 rfl ⟨rfl, rfl, (Nat.le_of_ble_eq_true rfl), (Nat.le_of_ble_eq_true rfl)⟩ rfl (Nat.le_of_ble_eq_true rfl) dL_law_1032 (kVal h2 ?_)
  exact x_icmp_eq C 1446 rfl rfl dL_law_1035 rfl (fun _ => aft υ k z (Nat.le_refl _) (Nat.le_succ _) (Nat.le_refl _) (Nat.le_add_right _ _) hT) (fun c => absurd rfl c)
set_option maxHeartbeats 4000000 in
set_option maxRecDepth 100000 in
theorem lc_vanOf {ρ : Type} {X : xX} {Qf : ρ → State → Prop} {o : Option ρ} {σ : xS} {b Ln i k z m Lb : Nat} {xs : Nat → Int32} {β : Nat → Int} {B : Nat → Nat → Int} (Cg : xCg X cL_law "BakeryNightLaw" (some .boolean) room_1 7) (hs : lsS X b Ln xs) (hi : i + 6 ≤ Ln) (hk : k ≤ 601024 ∧ z ≤ 7293034) (h : TJ σ β Lb m B)
    (aft : LWaft X Qf o b i k z) : WO (xat X k z) Qf WW σ 1040 (lL X b i) [] o := by
  have C := Cg k z hk.1 hk.2
  have hs : lsS (xat X k z) b Ln xs := hs
  have hb1 := i32_bd (xs (i + 1))
  obtain ⟨v, τ, υ, h1, h2, hT⟩ := KALL_S (r := m_X13_vanOf 4000000 (xs (i + 1)).toInt) (CALL_3 h (BOTH_3 (BOTH_2 (q_vanOf h.1 (Nat.le_refl 4000000) hb1.1 hb1.2))))
  refine x_aload_n C 1 dL_law_1040 rfl rfl ?_
  refine x_aload_n C 0 dL_law_1041 rfl rfl ?_
  refine x_iload C 4 dL_law_1042 rfl ?_
  refine x_iconst C (1) dL_law_1044 rfl ?_
  refine x_iadd C dL_law_1045 ?_
  refine x_sld C hs (i + 1) (by omega) (by omega) dL_law_1046 ?_
  refine x_callV C (ct_X12_vanOf _ _ 4000000 (xs (i + 1)).toInt σ) mt_X12_vanOf vr_X12_vanOf wd1272 cls_X12 at_X12 rfl ⟨rfl, rfl, (Nat.le_of_ble_eq_true rfl), (Nat.le_of_ble_eq_true rfl)⟩ rfl (Nat.le_of_ble_eq_true rfl) dL_law_1047 (kVal h1 ?_)
  refine x_aload_n C 2 dL_law_1050 rfl rfl ?_
  refine x_aload_n C 0 dL_law_1051 rfl rfl ?_
  refine x_iload C 4 dL_law_1052 rfl ?_
  refine x_iconst C (1) dL_law_1054 rfl ?_
  refine x_iadd C dL_law_1055 ?_
  refine x_sld C hs (i + 1) (by omega) (by omega) dL_law_1056 ?_
  refine x_callV C (ct_X13_vanOf _ _ 4000000 (xs (i + 1)).toInt τ) mt_X13_vanOf vr_X13_vanOf wd2193 cls_X13 at_X13 rfl ⟨rfl, rfl, (Nat.le_of_ble_eq_true rfl), (Nat.le_of_ble_eq_true rfl)⟩ rfl (Nat.le_of_ble_eq_true rfl) dL_law_1057 (kVal h2 ?_)
  exact x_icmp_eq C 1446 rfl rfl dL_law_1060 rfl (fun _ => aft υ k z (Nat.le_refl _) (Nat.le_succ _) (Nat.le_refl _) (Nat.le_add_right _ _) hT) (fun c => absurd rfl c)
set_option maxHeartbeats 4000000 in
set_option maxRecDepth 100000 in
theorem lc_arrivalMinute {ρ : Type} {X : xX} {Qf : ρ → State → Prop} {o : Option ρ} {σ : xS} {b Ln i k z m Lb : Nat} {xs : Nat → Int32} {β : Nat → Int} {B : Nat → Nat → Int} (Cg : xCg X cL_law "BakeryNightLaw" (some .boolean) room_1 7) (hs : lsS X b Ln xs) (hi : i + 6 ≤ Ln) (hk : k ≤ 601024 ∧ z ≤ 7293034) (h : TJ σ β Lb m B)
    (aft : LWaft X Qf o b i k z) : WO (xat X k z) Qf WW σ 1065 (lL X b i) [] o := by
  have C := Cg k z hk.1 hk.2
  have hs : lsS (xat X k z) b Ln xs := hs
  have hb1 := i32_bd (xs (i + 1))
  obtain ⟨v, τ, υ, h1, h2, hT⟩ := KALL_S (r := m_X13_arrivalMinute 4000000 (xs (i + 1)).toInt) (CALL_3 h (BOTH_3 (BOTH_2 (q_arrivalMinute h.1 (Nat.le_refl 4000000) hb1.1 hb1.2))))
  refine x_aload_n C 1 dL_law_1065 rfl rfl ?_
  refine x_aload_n C 0 dL_law_1066 rfl rfl ?_
  refine x_iload C 4 dL_law_1067 rfl ?_
  refine x_iconst C (1) dL_law_1069 rfl ?_
  refine x_iadd C dL_law_1070 ?_
  refine x_sld C hs (i + 1) (by omega) (by omega) dL_law_1071 ?_
  refine x_callV C (ct_X12_arrivalMinute _ _ 4000000 (xs (i + 1)).toInt σ) mt_X12_arrivalMinute vr_X12_arrivalMinute wd1280 cls_X12 at_X12 rfl ⟨rfl, rfl, (Nat.le_of_ble_eq_true rfl), (Nat.le_of_ble_eq_true rfl)⟩ rfl (Nat.le_of_ble_eq_true rfl) dL_law_1072 (kVal h1 ?_)
  refine x_aload_n C 2 dL_law_1075 rfl rfl ?_
  refine x_aload_n C 0 dL_law_1076 rfl rfl ?_
  refine x_iload C 4 dL_law_1077 rfl ?_
  refine x_iconst C (1) dL_law_1079 rfl ?_
  refine x_iadd C dL_law_1080 ?_
  refine x_sld C hs (i + 1) (by omega) (by omega) dL_law_1081 ?_
  refine x_callV C (ct_X13_arrivalMinute _ _ 4000000 (xs (i + 1)).toInt τ) mt_X13_arrivalMinute vr_X13_arrivalMinute wd2197 cls_X13 at_X13 rfl ⟨rfl, rfl, (Nat.le_of_ble_eq_true rfl), (Nat.le_of_ble_eq_true rfl)⟩ rfl (Nat.le_of_ble_eq_true rfl) dL_law_1082 (kVal h2 ?_)
  exact x_icmp_eq C 1446 rfl rfl dL_law_1085 rfl (fun _ => aft υ k z (Nat.le_refl _) (Nat.le_succ _) (Nat.le_refl _) (Nat.le_add_right _ _) hT) (fun c => absurd rfl c)
set_option maxHeartbeats 4000000 in
set_option maxRecDepth 100000 in
theorem lc_departureMinute {ρ : Type} {X : xX} {Qf : ρ → State → Prop} {o : Option ρ} {σ : xS} {b Ln i k z m Lb : Nat} {xs : Nat → Int32} {β : Nat → Int} {B : Nat → Nat → Int} (Cg : xCg X cL_law "BakeryNightLaw" (some .boolean) room_1 7) (hs : lsS X b Ln xs) (hi : i + 6 ≤ Ln) (hk : k ≤ 601024 ∧ z ≤ 7293034) (h : TJ σ β Lb m B)
    (aft : LWaft X Qf o b i k z) : WO (xat X k z) Qf WW σ 1090 (lL X b i) [] o := by
  have C := Cg k z hk.1 hk.2
  have hs : lsS (xat X k z) b Ln xs := hs
  have hb1 := i32_bd (xs (i + 1))
  obtain ⟨v, τ, υ, h1, h2, hT⟩ := KALL_S (r := m_X13_departureMinute 4000000 (xs (i + 1)).toInt) (CALL_3 h (BOTH_3 (BOTH_2 (q_departureMinute h.1 (Nat.le_refl 4000000) hb1.1 hb1.2))))
  refine x_aload_n C 1 dL_law_1090 rfl rfl ?_
  refine x_aload_n C 0 dL_law_1091 rfl rfl ?_
  refine x_iload C 4 dL_law_1092 rfl ?_
  refine x_iconst C (1) dL_law_1094 rfl ?_
  refine x_iadd C dL_law_1095 ?_
  refine x_sld C hs (i + 1) (by omega) (by omega) dL_law_1096 ?_
  refine x_callV C (ct_X12_departureMinute _ _ 4000000 (xs (i + 1)).toInt σ) mt_X12_departureMinute vr_X12_departureMinute wd1284 cls_X12 at_X12 rfl ⟨rfl, rfl, (Nat.le_of_ble_eq_true rfl), (Nat.le_of_ble_eq_true rfl)⟩ rfl (Nat.le_of_ble_eq_true rfl) dL_law_1097 (kVal h1 ?_)
  refine x_aload_n C 2 dL_law_1100 rfl rfl ?_
  refine x_aload_n C 0 dL_law_1101 rfl rfl ?_
  refine x_iload C 4 dL_law_1102 rfl ?_
  refine x_iconst C (1) dL_law_1104 rfl ?_
  refine x_iadd C dL_law_1105 ?_
  refine x_sld C hs (i + 1) (by omega) (by omega) dL_law_1106 ?_
  refine x_callV C (ct_X13_departureMinute _ _ 4000000 (xs (i + 1)).toInt τ) mt_X13_departureMinute vr_X13_departureMinute wd2201 cls_X13 at_X13 rfl ⟨rfl, rfl, (Nat.le_of_ble_eq_true rfl), (Nat.le_of_ble_eq_true rfl)⟩ rfl (Nat.le_of_ble_eq_true rfl) dL_law_1107 (kVal h2 ?_)
  exact x_icmp_eq C 1446 rfl rfl dL_law_1110 rfl (fun _ => aft υ k z (Nat.le_refl _) (Nat.le_succ _) (Nat.le_refl _) (Nat.le_add_right _ _) hT) (fun c => absurd rfl c)
set_option maxHeartbeats 4000000 in
set_option maxRecDepth 100000 in
theorem lc_staleOrders {ρ : Type} {X : xX} {Qf : ρ → State → Prop} {o : Option ρ} {σ : xS} {b Ln i k z m Lb : Nat} {xs : Nat → Int32} {β : Nat → Int} {B : Nat → Nat → Int} (Cg : xCg X cL_law "BakeryNightLaw" (some .boolean) room_1 7) (hs : lsS X b Ln xs) (hi : i + 6 ≤ Ln) (hk : k ≤ 601024 ∧ z ≤ 7293034) (h : TJ σ β Lb m B)
    (aft : LWaft X Qf o b i k z) : WO (xat X k z) Qf WW σ 1115 (lL X b i) [] o := by
  have C := Cg k z hk.1 hk.2
  have hs : lsS (xat X k z) b Ln xs := hs
  obtain ⟨v, τ, υ, h1, h2, hT⟩ := KALL_S (r := m_X13_staleOrders 4000000) (CALL_3 h (BOTH_3 (BOTH_2 (q_staleOrders h.1 (Nat.le_refl 4000000) ))))
  refine x_aload_n C 1 dL_law_1115 rfl rfl ?_
  refine x_callV C (ct_X12_staleOrders _ _ 4000000 σ) mt_X12_staleOrders vr_X12_staleOrders wd1296 cls_X12 at_X12 rfl ⟨rfl, rfl, (Nat.le_of_ble_eq_true rfl), (Nat.le_of_ble_eq_true rfl)⟩ rfl (Nat.le_of_ble_eq_true rfl) dL_law_1116 (kVal h1 ?_)
  refine x_aload_n C 2 dL_law_1119 rfl rfl ?_
  refine x_callV C (ct_X13_staleOrders _ _ 4000000 τ) mt_X13_staleOrders vr_X13_staleOrders wd2205 cls_X13 at_X13 rfl ⟨rfl, rfl, (Nat.le_of_ble_eq_true rfl), (Nat.le_of_ble_eq_true rfl)⟩ rfl (Nat.le_of_ble_eq_true rfl) dL_law_1120 (kVal h2 ?_)
  exact x_icmp_eq C 1446 rfl rfl dL_law_1123 rfl (fun _ => aft υ k z (Nat.le_refl _) (Nat.le_succ _) (Nat.le_refl _) (Nat.le_add_right _ _) hT) (fun c => absurd rfl c)
set_option maxHeartbeats 4000000 in
set_option maxRecDepth 100000 in
theorem lc_latestStart {ρ : Type} {X : xX} {Qf : ρ → State → Prop} {o : Option ρ} {σ : xS} {b Ln i k z m Lb : Nat} {xs : Nat → Int32} {β : Nat → Int} {B : Nat → Nat → Int} (Cg : xCg X cL_law "BakeryNightLaw" (some .boolean) room_1 7) (hs : lsS X b Ln xs) (hi : i + 6 ≤ Ln) (hk : k ≤ 601024 ∧ z ≤ 7293034) (h : TJ σ β Lb m B)
    (aft : LWaft X Qf o b i k z) : WO (xat X k z) Qf WW σ 1128 (lL X b i) [] o := by
  have C := Cg k z hk.1 hk.2
  have hs : lsS (xat X k z) b Ln xs := hs
  obtain ⟨v, τ, υ, h1, h2, hT⟩ := KALL_S (r := m_X13_latestStart 4000000) (CALL_3 h (BOTH_3 (q_latestStart h.1 (Nat.le_refl 4000000))))
  refine x_aload_n C 1 dL_law_1128 rfl rfl ?_
  refine x_callV C (ct_X12_latestStart _ _ 4000000 σ) mt_X12_latestStart vr_X12_latestStart wd1305 cls_X12 at_X12 rfl ⟨rfl, rfl, (Nat.le_of_ble_eq_true rfl), (Nat.le_of_ble_eq_true rfl)⟩ rfl (Nat.le_of_ble_eq_true rfl) dL_law_1129 (kVal h1 ?_)
  refine x_aload_n C 2 dL_law_1132 rfl rfl ?_
  refine x_callV C (ct_X13_latestStart _ _ 4000000 τ) mt_X13_latestStart vr_X13_latestStart wd2209 cls_X13 at_X13 rfl ⟨rfl, rfl, (Nat.le_of_ble_eq_true rfl), (Nat.le_of_ble_eq_true rfl)⟩ rfl (Nat.le_of_ble_eq_true rfl) dL_law_1133 (kVal h2 ?_)
  exact x_icmp_eq C 1446 rfl rfl dL_law_1136 rfl (fun _ => aft υ k z (Nat.le_refl _) (Nat.le_succ _) (Nat.le_refl _) (Nat.le_add_right _ _) hT) (fun c => absurd rfl c)
set_option maxHeartbeats 4000000 in
set_option maxRecDepth 100000 in
theorem lc_latestStartWith {ρ : Type} {X : xX} {Qf : ρ → State → Prop} {o : Option ρ} {σ : xS} {b Ln i k z m Lb : Nat} {xs : Nat → Int32} {β : Nat → Int} {B : Nat → Nat → Int} (Cg : xCg X cL_law "BakeryNightLaw" (some .boolean) room_1 7) (hs : lsS X b Ln xs) (hi : i + 6 ≤ Ln) (hk : k ≤ 601024 ∧ z ≤ 7293034) (h : TJ σ β Lb m B)
    (aft : LWaft X Qf o b i k z) : WO (xat X k z) Qf WW σ 1141 (lL X b i) [] o := by
  have C := Cg k z hk.1 hk.2
  have hs : lsS (xat X k z) b Ln xs := hs
  have hb1 := i32_bd (xs (i + 1))
  obtain ⟨v, τ, υ, h1, h2, hT⟩ := KALL_S (r := m_X13_latestStartWith 4000000 (xs (i + 1)).toInt) (CALL_3 h (BOTH_3 (q_latestStartWith h.1 h.2.1 (Nat.le_refl 4000000) hb1.1 hb1.2)))
  refine x_aload_n C 1 dL_law_1141 rfl rfl ?_
  refine x_aload_n C 0 dL_law_1142 rfl rfl ?_
  refine x_iload C 4 dL_law_1143 rfl ?_
  refine x_iconst C (1) dL_law_1145 rfl ?_
  refine x_iadd C dL_law_1146 ?_
  refine x_sld C hs (i + 1) (by omega) (by omega) dL_law_1147 ?_
  refine x_callV C (ct_X12_latestStartWith _ _ 4000000 (xs (i + 1)).toInt σ) mt_X12_latestStartWith vr_X12_latestStartWith wd1317 cls_X12 at_X12 rfl ⟨rfl, rfl, (Nat.le_of_ble_eq_true rfl), (Nat.le_of_ble_eq_true rfl)⟩ rfl (Nat.le_of_ble_eq_true rfl) dL_law_1148 (kVal h1 ?_)
  refine x_aload_n C 2 dL_law_1151 rfl rfl ?_
  refine x_aload_n C 0 dL_law_1152 rfl rfl ?_
  refine x_iload C 4 dL_law_1153 rfl ?_
  refine x_iconst C (1) dL_law_1155 rfl ?_
  refine x_iadd C dL_law_1156 ?_
  refine x_sld C hs (i + 1) (by omega) (by omega) dL_law_1157 ?_
  refine x_callV C (ct_X13_latestStartWith _ _ 4000000 (xs (i + 1)).toInt τ) mt_X13_latestStartWith vr_X13_latestStartWith wd2225 cls_X13 at_X13 rfl ⟨rfl, rfl, (Nat.le_of_ble_eq_true rfl), (Nat.le_of_ble_eq_true rfl)⟩ rfl (Nat.le_of_ble_eq_true rfl) dL_law_1158 (kVal h2 ?_)
  exact x_icmp_eq C 1446 rfl rfl dL_law_1161 rfl (fun _ => aft υ k z (Nat.le_refl _) (Nat.le_succ _) (Nat.le_refl _) (Nat.le_add_right _ _) hT) (fun c => absurd rfl c)
set_option maxHeartbeats 4000000 in
set_option maxRecDepth 100000 in
theorem lc_vitalStreet {ρ : Type} {X : xX} {Qf : ρ → State → Prop} {o : Option ρ} {σ : xS} {b Ln i k z m Lb : Nat} {xs : Nat → Int32} {β : Nat → Int} {B : Nat → Nat → Int} (Cg : xCg X cL_law "BakeryNightLaw" (some .boolean) room_1 7) (hs : lsS X b Ln xs) (hi : i + 6 ≤ Ln) (hk : k ≤ 601024 ∧ z ≤ 7293034) (h : TJ σ β Lb m B)
    (aft : LWaft X Qf o b i k z) : WO (xat X k z) Qf WW σ 1166 (lL X b i) [] o := by
  have C := Cg k z hk.1 hk.2
  have hs : lsS (xat X k z) b Ln xs := hs
  obtain ⟨v, τ, υ, h1, h2, hT⟩ := KALL_S (r := m_X13_vitalStreet 4000000) (CALL_3 h (q_vitalStreet h.1 (Nat.le_refl 4000000)))
  refine x_aload_n C 1 dL_law_1166 rfl rfl ?_
  refine x_callV C (ct_X12_vitalStreet _ _ 4000000 σ) mt_X12_vitalStreet vr_X12_vitalStreet wd1326 cls_X12 at_X12 rfl ⟨rfl, rfl, (Nat.le_of_ble_eq_true rfl), (Nat.le_of_ble_eq_true rfl)⟩ rfl (Nat.le_of_ble_eq_true rfl) dL_law_1167 (kVal h1 ?_)
  refine x_aload_n C 2 dL_law_1170 rfl rfl ?_
  refine x_callV C (ct_X13_vitalStreet _ _ 4000000 τ) mt_X13_vitalStreet vr_X13_vitalStreet wd2230 cls_X13 at_X13 rfl ⟨rfl, rfl, (Nat.le_of_ble_eq_true rfl), (Nat.le_of_ble_eq_true rfl)⟩ rfl (Nat.le_of_ble_eq_true rfl) dL_law_1171 (kVal h2 ?_)
  exact x_icmp_eq C 1446 rfl rfl dL_law_1174 rfl (fun _ => aft υ k z (Nat.le_refl _) (Nat.le_succ _) (Nat.le_refl _) (Nat.le_add_right _ _) hT) (fun c => absurd rfl c)
set_option maxHeartbeats 4000000 in
set_option maxRecDepth 100000 in
theorem lc_setRoom {ρ : Type} {X : xX} {Qf : ρ → State → Prop} {o : Option ρ} {σ : xS} {b Ln i k z m Lb : Nat} {xs : Nat → Int32} {β : Nat → Int} {B : Nat → Nat → Int} (Cg : xCg X cL_law "BakeryNightLaw" (some .boolean) room_1 7) (hs : lsS X b Ln xs) (hi : i + 6 ≤ Ln) (hk : k ≤ 601024 ∧ z ≤ 7293034) (h : TJ σ β Lb m B)
    (aft : LWaft X Qf o b i k z) : WO (xat X k z) Qf WW σ 1179 (lL X b i) [] o := by
  have C := Cg k z hk.1 hk.2
  have hs : lsS (xat X k z) b Ln xs := hs
  have hb1 := i32_bd (xs (i + 1))
  obtain ⟨v, τ, υ, h1, h2, hT⟩ := KALL_S (r := m_X13_setRoom 4000000 (xs (i + 1)).toInt) (q_setRoom h (Nat.le_refl 4000000) hb1.1 hb1.2)
  refine x_aload_n C 1 dL_law_1179 rfl rfl ?_
  refine x_aload_n C 0 dL_law_1180 rfl rfl ?_
  refine x_iload C 4 dL_law_1181 rfl ?_
  refine x_iconst C (1) dL_law_1183 rfl ?_
  refine x_iadd C dL_law_1184 ?_
  refine x_sld C hs (i + 1) (by omega) (by omega) dL_law_1185 ?_
  refine x_callV C (ct_X12_setRoom _ _ (xs (i + 1)).toInt σ) mt_X12_setRoom vr_X12_setRoom wd1331 cls_X12 at_X12 rfl ⟨rfl, rfl, (Nat.le_of_ble_eq_true rfl), (Nat.le_of_ble_eq_true rfl)⟩ rfl (Nat.le_of_ble_eq_true rfl) dL_law_1186 (kVal h1 ?_)
  refine x_aload_n C 2 dL_law_1189 rfl rfl ?_
  refine x_aload_n C 0 dL_law_1190 rfl rfl ?_
  refine x_iload C 4 dL_law_1191 rfl ?_
  refine x_iconst C (1) dL_law_1193 rfl ?_
  refine x_iadd C dL_law_1194 ?_
  refine x_sld C hs (i + 1) (by omega) (by omega) dL_law_1195 ?_
  refine x_callV C (ct_X13_setRoom _ _ 4000000 (xs (i + 1)).toInt τ) mt_X13_setRoom vr_X13_setRoom wd2234 cls_X13 at_X13 rfl ⟨rfl, rfl, (Nat.le_of_ble_eq_true rfl), (Nat.le_of_ble_eq_true rfl)⟩ rfl (Nat.le_of_ble_eq_true rfl) dL_law_1196 (kVal h2 ?_)
  exact x_icmp_eq C 1446 rfl rfl dL_law_1199 rfl (fun _ => aft υ k z (Nat.le_refl _) (Nat.le_succ _) (Nat.le_refl _) (Nat.le_add_right _ _) hT) (fun c => absurd rfl c)
set_option maxHeartbeats 4000000 in
set_option maxRecDepth 100000 in
theorem lc_breakOven_0 {ρ : Type} {X : xX} {Qf : ρ → State → Prop} {o : Option ρ} {σ : xS} {b Ln i k z m Lb : Nat} {xs : Nat → Int32} {β : Nat → Int} {B : Nat → Nat → Int} (Cg : xCg X cL_law "BakeryNightLaw" (some .boolean) room_1 7) (hs : lsS X b Ln xs) (hi : i + 6 ≤ Ln) (hk : k ≤ 601024 ∧ z ≤ 7293034) (h : TJ σ β Lb m B) (hz : (xs (i + 2)).toInt = 0)
    (aft : LWaft X Qf o b i k z) : WO (xat X k z) Qf WW σ 1204 (lL X b i) [] o := by
  have C := Cg k z hk.1 hk.2
  have hs : lsS (xat X k z) b Ln xs := hs
  have hb1 := i32_bd (xs (i + 1))
  have hw : (0 : Int) = 0 ∨ (0 : Int) = 1 := by decide
  obtain ⟨v, τ, υ, h1, h2, hT⟩ := KALL_S (r := m_X13_breakOven 4000000 (xs (i + 1)).toInt 0) (q_breakOven h (Nat.le_refl 4000000) hb1.1 hb1.2 hw)
  refine x_aload_n C 1 dL_law_1204 rfl rfl ?_
  refine x_aload_n C 0 dL_law_1205 rfl rfl ?_
  refine x_iload C 4 dL_law_1206 rfl ?_
  refine x_iconst C (1) dL_law_1208 rfl ?_
  refine x_iadd C dL_law_1209 ?_
  refine x_sld C hs (i + 1) (by omega) (by omega) dL_law_1210 ?_
  refine x_aload_n C 0 dL_law_1211 rfl rfl ?_
  refine x_iload C 4 dL_law_1212 rfl ?_
  refine x_iconst C (2) dL_law_1214 rfl ?_
  refine x_iadd C dL_law_1215 ?_
  refine x_sld C hs (i + 2) (by omega) (by omega) dL_law_1216 ?_
  refine x_if_eq C 1224 (zI_of (i32_bd _).1 (i32_bd _).2) dL_law_1217 rfl (fun _ => ?_) (fun c => absurd hz c)
  refine x_iconst C (0) dL_law_1224 rfl ?_
  refine x_callV C (ct_X12_breakOven _ _ (xs (i + 1)).toInt 0 σ) mt_X12_breakOven vr_X12_breakOven wd1348 cls_X12 at_X12 rfl ⟨rfl, rfl, (Nat.le_of_ble_eq_true rfl), (Nat.le_of_ble_eq_true rfl)⟩ rfl (Nat.le_of_ble_eq_true rfl) dL_law_1225 (kVal h1 ?_)
  refine x_aload_n C 2 dL_law_1228 rfl rfl ?_
  refine x_aload_n C 0 dL_law_1229 rfl rfl ?_
  refine x_iload C 4 dL_law_1230 rfl ?_
  refine x_iconst C (1) dL_law_1232 rfl ?_
  refine x_iadd C dL_law_1233 ?_
  refine x_sld C hs (i + 1) (by omega) (by omega) dL_law_1234 ?_
  refine x_aload_n C 0 dL_law_1235 rfl rfl ?_
  refine x_iload C 4 dL_law_1236 rfl ?_
  refine x_iconst C (2) dL_law_1238 rfl ?_
  refine x_iadd C dL_law_1239 ?_
  refine x_sld C hs (i + 2) (by omega) (by omega) dL_law_1240 ?_
  refine x_if_eq C 1248 (zI_of (i32_bd _).1 (i32_bd _).2) dL_law_1241 rfl (fun _ => ?_) (fun c => absurd hz c)
  refine x_iconst C (0) dL_law_1248 rfl ?_
  refine x_callV C (ct_X13_breakOven _ _ 4000000 (xs (i + 1)).toInt 0 τ) mt_X13_breakOven vr_X13_breakOven wd2248 cls_X13 at_X13 rfl ⟨rfl, rfl, (Nat.le_of_ble_eq_true rfl), (Nat.le_of_ble_eq_true rfl)⟩ rfl (Nat.le_of_ble_eq_true rfl) dL_law_1249 (kVal h2 ?_)
  exact x_icmp_eq C 1446 rfl rfl dL_law_1252 rfl (fun _ => aft υ k z (Nat.le_refl _) (Nat.le_succ _) (Nat.le_refl _) (Nat.le_add_right _ _) hT) (fun c => absurd rfl c)
set_option maxHeartbeats 4000000 in
set_option maxRecDepth 100000 in
theorem lc_breakOven_1 {ρ : Type} {X : xX} {Qf : ρ → State → Prop} {o : Option ρ} {σ : xS} {b Ln i k z m Lb : Nat} {xs : Nat → Int32} {β : Nat → Int} {B : Nat → Nat → Int} (Cg : xCg X cL_law "BakeryNightLaw" (some .boolean) room_1 7) (hs : lsS X b Ln xs) (hi : i + 6 ≤ Ln) (hk : k ≤ 601024 ∧ z ≤ 7293034) (h : TJ σ β Lb m B) (hz : ¬ (xs (i + 2)).toInt = 0)
    (aft : LWaft X Qf o b i k z) : WO (xat X k z) Qf WW σ 1204 (lL X b i) [] o := by
  have C := Cg k z hk.1 hk.2
  have hs : lsS (xat X k z) b Ln xs := hs
  have hb1 := i32_bd (xs (i + 1))
  have hw : (1 : Int) = 0 ∨ (1 : Int) = 1 := by decide
  obtain ⟨v, τ, υ, h1, h2, hT⟩ := KALL_S (r := m_X13_breakOven 4000000 (xs (i + 1)).toInt 1) (q_breakOven h (Nat.le_refl 4000000) hb1.1 hb1.2 hw)
  refine x_aload_n C 1 dL_law_1204 rfl rfl ?_
  refine x_aload_n C 0 dL_law_1205 rfl rfl ?_
  refine x_iload C 4 dL_law_1206 rfl ?_
  refine x_iconst C (1) dL_law_1208 rfl ?_
  refine x_iadd C dL_law_1209 ?_
  refine x_sld C hs (i + 1) (by omega) (by omega) dL_law_1210 ?_
  refine x_aload_n C 0 dL_law_1211 rfl rfl ?_
  refine x_iload C 4 dL_law_1212 rfl ?_
  refine x_iconst C (2) dL_law_1214 rfl ?_
  refine x_iadd C dL_law_1215 ?_
  refine x_sld C hs (i + 2) (by omega) (by omega) dL_law_1216 ?_
  refine x_if_eq C 1224 (zI_of (i32_bd _).1 (i32_bd _).2) dL_law_1217 rfl (fun c => absurd c hz) (fun _ => ?_)
  refine x_iconst C (1) dL_law_1220 rfl ?_
  refine x_goto C 1225 dL_law_1221 rfl ?_
  refine x_callV C (ct_X12_breakOven _ _ (xs (i + 1)).toInt 1 σ) mt_X12_breakOven vr_X12_breakOven wd1348 cls_X12 at_X12 rfl ⟨rfl, rfl, (Nat.le_of_ble_eq_true rfl), (Nat.le_of_ble_eq_true rfl)⟩ rfl (Nat.le_of_ble_eq_true rfl) dL_law_1225 (kVal h1 ?_)
  refine x_aload_n C 2 dL_law_1228 rfl rfl ?_
  refine x_aload_n C 0 dL_law_1229 rfl rfl ?_
  refine x_iload C 4 dL_law_1230 rfl ?_
  refine x_iconst C (1) dL_law_1232 rfl ?_
  refine x_iadd C dL_law_1233 ?_
  refine x_sld C hs (i + 1) (by omega) (by omega) dL_law_1234 ?_
  refine x_aload_n C 0 dL_law_1235 rfl rfl ?_
  refine x_iload C 4 dL_law_1236 rfl ?_
  refine x_iconst C (2) dL_law_1238 rfl ?_
  refine x_iadd C dL_law_1239 ?_
  refine x_sld C hs (i + 2) (by omega) (by omega) dL_law_1240 ?_
  refine x_if_eq C 1248 (zI_of (i32_bd _).1 (i32_bd _).2) dL_law_1241 rfl (fun c => absurd c hz) (fun _ => ?_)
  refine x_iconst C (1) dL_law_1244 rfl ?_
  refine x_goto C 1249 dL_law_1245 rfl ?_
  refine x_callV C (ct_X13_breakOven _ _ 4000000 (xs (i + 1)).toInt 1 τ) mt_X13_breakOven vr_X13_breakOven wd2248 cls_X13 at_X13 rfl ⟨rfl, rfl, (Nat.le_of_ble_eq_true rfl), (Nat.le_of_ble_eq_true rfl)⟩ rfl (Nat.le_of_ble_eq_true rfl) dL_law_1249 (kVal h2 ?_)
  exact x_icmp_eq C 1446 rfl rfl dL_law_1252 rfl (fun _ => aft υ k z (Nat.le_refl _) (Nat.le_succ _) (Nat.le_refl _) (Nat.le_add_right _ _) hT) (fun c => absurd rfl c)
set_option maxHeartbeats 4000000 in
set_option maxRecDepth 100000 in
theorem lc_closeStreet_0 {ρ : Type} {X : xX} {Qf : ρ → State → Prop} {o : Option ρ} {σ : xS} {b Ln i k z m Lb : Nat} {xs : Nat → Int32} {β : Nat → Int} {B : Nat → Nat → Int} (Cg : xCg X cL_law "BakeryNightLaw" (some .boolean) room_1 7) (hs : lsS X b Ln xs) (hi : i + 6 ≤ Ln) (hk : k ≤ 601024 ∧ z ≤ 7293034) (h : TJ σ β Lb m B) (hz : (xs (i + 2)).toInt = 0)
    (aft : LWaft X Qf o b i k z) : WO (xat X k z) Qf WW σ 1257 (lL X b i) [] o := by
  have C := Cg k z hk.1 hk.2
  have hs : lsS (xat X k z) b Ln xs := hs
  have hb1 := i32_bd (xs (i + 1))
  have hw : (0 : Int) = 0 ∨ (0 : Int) = 1 := by decide
  obtain ⟨v, τ, υ, h1, h2, hT⟩ := KALL_S (r := m_X13_closeStreet 4000000 (xs (i + 1)).toInt 0) (q_closeStreet h (Nat.le_refl 4000000) hb1.1 hb1.2 hw)
  refine x_aload_n C 1 dL_law_1257 rfl rfl ?_
  refine x_aload_n C 0 dL_law_1258 rfl rfl ?_
  refine x_iload C 4 dL_law_1259 rfl ?_
  refine x_iconst C (1) dL_law_1261 rfl ?_
  refine x_iadd C dL_law_1262 ?_
  refine x_sld C hs (i + 1) (by omega) (by omega) dL_law_1263 ?_
  refine x_aload_n C 0 dL_law_1264 rfl rfl ?_
  refine x_iload C 4 dL_law_1265 rfl ?_
  refine x_iconst C (2) dL_law_1267 rfl ?_
  refine x_iadd C dL_law_1268 ?_
  refine x_sld C hs (i + 2) (by omega) (by omega) dL_law_1269 ?_
  refine x_if_eq C 1277 (zI_of (i32_bd _).1 (i32_bd _).2) dL_law_1270 rfl (fun _ => ?_) (fun c => absurd hz c)
  refine x_iconst C (0) dL_law_1277 rfl ?_
  refine x_callV C (ct_X12_closeStreet _ _ 4000000 (xs (i + 1)).toInt 0 σ) mt_X12_closeStreet vr_X12_closeStreet wd1352 cls_X12 at_X12 rfl ⟨rfl, rfl, (Nat.le_of_ble_eq_true rfl), (Nat.le_of_ble_eq_true rfl)⟩ rfl (Nat.le_of_ble_eq_true rfl) dL_law_1278 (kVal h1 ?_)
  refine x_aload_n C 2 dL_law_1281 rfl rfl ?_
  refine x_aload_n C 0 dL_law_1282 rfl rfl ?_
  refine x_iload C 4 dL_law_1283 rfl ?_
  refine x_iconst C (1) dL_law_1285 rfl ?_
  refine x_iadd C dL_law_1286 ?_
  refine x_sld C hs (i + 1) (by omega) (by omega) dL_law_1287 ?_
  refine x_aload_n C 0 dL_law_1288 rfl rfl ?_
  refine x_iload C 4 dL_law_1289 rfl ?_
  refine x_iconst C (2) dL_law_1291 rfl ?_
  refine x_iadd C dL_law_1292 ?_
  refine x_sld C hs (i + 2) (by omega) (by omega) dL_law_1293 ?_
  refine x_if_eq C 1301 (zI_of (i32_bd _).1 (i32_bd _).2) dL_law_1294 rfl (fun _ => ?_) (fun c => absurd hz c)
  refine x_iconst C (0) dL_law_1301 rfl ?_
  refine x_callV C (ct_X13_closeStreet _ _ 4000000 (xs (i + 1)).toInt 0 τ) mt_X13_closeStreet vr_X13_closeStreet wd2252 cls_X13 at_X13 rfl ⟨rfl, rfl, (Nat.le_of_ble_eq_true rfl), (Nat.le_of_ble_eq_true rfl)⟩ rfl (Nat.le_of_ble_eq_true rfl) dL_law_1302 (kVal h2 ?_)
  exact x_icmp_eq C 1446 rfl rfl dL_law_1305 rfl (fun _ => aft υ k z (Nat.le_refl _) (Nat.le_succ _) (Nat.le_refl _) (Nat.le_add_right _ _) hT) (fun c => absurd rfl c)
set_option maxHeartbeats 4000000 in
set_option maxRecDepth 100000 in
theorem lc_closeStreet_1 {ρ : Type} {X : xX} {Qf : ρ → State → Prop} {o : Option ρ} {σ : xS} {b Ln i k z m Lb : Nat} {xs : Nat → Int32} {β : Nat → Int} {B : Nat → Nat → Int} (Cg : xCg X cL_law "BakeryNightLaw" (some .boolean) room_1 7) (hs : lsS X b Ln xs) (hi : i + 6 ≤ Ln) (hk : k ≤ 601024 ∧ z ≤ 7293034) (h : TJ σ β Lb m B) (hz : ¬ (xs (i + 2)).toInt = 0)
    (aft : LWaft X Qf o b i k z) : WO (xat X k z) Qf WW σ 1257 (lL X b i) [] o := by
  have C := Cg k z hk.1 hk.2
  have hs : lsS (xat X k z) b Ln xs := hs
  have hb1 := i32_bd (xs (i + 1))
  have hw : (1 : Int) = 0 ∨ (1 : Int) = 1 := by decide
  obtain ⟨v, τ, υ, h1, h2, hT⟩ := KALL_S (r := m_X13_closeStreet 4000000 (xs (i + 1)).toInt 1) (q_closeStreet h (Nat.le_refl 4000000) hb1.1 hb1.2 hw)
  refine x_aload_n C 1 dL_law_1257 rfl rfl ?_
  refine x_aload_n C 0 dL_law_1258 rfl rfl ?_
  refine x_iload C 4 dL_law_1259 rfl ?_
  refine x_iconst C (1) dL_law_1261 rfl ?_
  refine x_iadd C dL_law_1262 ?_
  refine x_sld C hs (i + 1) (by omega) (by omega) dL_law_1263 ?_
  refine x_aload_n C 0 dL_law_1264 rfl rfl ?_
  refine x_iload C 4 dL_law_1265 rfl ?_
  refine x_iconst C (2) dL_law_1267 rfl ?_
  refine x_iadd C dL_law_1268 ?_
  refine x_sld C hs (i + 2) (by omega) (by omega) dL_law_1269 ?_
  refine x_if_eq C 1277 (zI_of (i32_bd _).1 (i32_bd _).2) dL_law_1270 rfl (fun c => absurd c hz) (fun _ => ?_)
  refine x_iconst C (1) dL_law_1273 rfl ?_
  refine x_goto C 1278 dL_law_1274 rfl ?_
  refine x_callV C (ct_X12_closeStreet _ _ 4000000 (xs (i + 1)).toInt 1 σ) mt_X12_closeStreet vr_X12_closeStreet wd1352 cls_X12 at_X12 rfl ⟨rfl, rfl, (Nat.le_of_ble_eq_true rfl), (Nat.le_of_ble_eq_true rfl)⟩ rfl (Nat.le_of_ble_eq_true rfl) dL_law_1278 (kVal h1 ?_)
  refine x_aload_n C 2 dL_law_1281 rfl rfl ?_
  refine x_aload_n C 0 dL_law_1282 rfl rfl ?_
  refine x_iload C 4 dL_law_1283 rfl ?_
  refine x_iconst C (1) dL_law_1285 rfl ?_
  refine x_iadd C dL_law_1286 ?_
  refine x_sld C hs (i + 1) (by omega) (by omega) dL_law_1287 ?_
  refine x_aload_n C 0 dL_law_1288 rfl rfl ?_
  refine x_iload C 4 dL_law_1289 rfl ?_
  refine x_iconst C (2) dL_law_1291 rfl ?_
  refine x_iadd C dL_law_1292 ?_
  refine x_sld C hs (i + 2) (by omega) (by omega) dL_law_1293 ?_
  refine x_if_eq C 1301 (zI_of (i32_bd _).1 (i32_bd _).2) dL_law_1294 rfl (fun c => absurd c hz) (fun _ => ?_)
  refine x_iconst C (1) dL_law_1297 rfl ?_
  refine x_goto C 1302 dL_law_1298 rfl ?_
  refine x_callV C (ct_X13_closeStreet _ _ 4000000 (xs (i + 1)).toInt 1 τ) mt_X13_closeStreet vr_X13_closeStreet wd2252 cls_X13 at_X13 rfl ⟨rfl, rfl, (Nat.le_of_ble_eq_true rfl), (Nat.le_of_ble_eq_true rfl)⟩ rfl (Nat.le_of_ble_eq_true rfl) dL_law_1302 (kVal h2 ?_)
  exact x_icmp_eq C 1446 rfl rfl dL_law_1305 rfl (fun _ => aft υ k z (Nat.le_refl _) (Nat.le_succ _) (Nat.le_refl _) (Nat.le_add_right _ _) hT) (fun c => absurd rfl c)
set_option maxHeartbeats 4000000 in
set_option maxRecDepth 100000 in
theorem lc_addOrder {ρ : Type} {X : xX} {Qf : ρ → State → Prop} {o : Option ρ} {σ : xS} {b Ln i k z m Lb : Nat} {xs : Nat → Int32} {β : Nat → Int} {B : Nat → Nat → Int} (Cg : xCg X cL_law "BakeryNightLaw" (some .boolean) room_1 7) (hs : lsS X b Ln xs) (hi : i + 6 ≤ Ln) (hk : k ≤ 601024 ∧ z ≤ 7293034) (h : TJ σ β Lb m B)
    (aft : LWaft X Qf o b i k z) : WO (xat X k z) Qf WW σ 1310 (lL X b i) [] o := by
  have C := Cg k z hk.1 hk.2
  have hs : lsS (xat X k z) b Ln xs := hs
  have hb1 := i32_bd (xs (i + 1))
  have hb2 := i32_bd (xs (i + 2))
  have hb3 := i32_bd (xs (i + 3))
  have hb4 := i32_bd (xs (i + 4))
  obtain ⟨v, τ, υ, h1, h2, hT⟩ := KALL_S (r := m_X13_addOrder 4000000 (xs (i + 1)).toInt (xs (i + 2)).toInt (xs (i + 3)).toInt (xs (i + 4)).toInt) (q_addOrder h (Nat.le_refl 4000000) hb1.1 hb1.2 hb2.1 hb2.2 hb3.1 hb3.2 hb4.1 hb4.2)
  refine x_aload_n C 1 dL_law_1310 rfl rfl ?_
  refine x_aload_n C 0 dL_law_1311 rfl rfl ?_
  refine x_iload C 4 dL_law_1312 rfl ?_
  refine x_iconst C (1) dL_law_1314 rfl ?_
  refine x_iadd C dL_law_1315 ?_
  refine x_sld C hs (i + 1) (by omega) (by omega) dL_law_1316 ?_
  refine x_aload_n C 0 dL_law_1317 rfl rfl ?_
  refine x_iload C 4 dL_law_1318 rfl ?_
  refine x_iconst C (2) dL_law_1320 rfl ?_
  refine x_iadd C dL_law_1321 ?_
  refine x_sld C hs (i + 2) (by omega) (by omega) dL_law_1322 ?_
  refine x_aload_n C 0 dL_law_1323 rfl rfl ?_
  refine x_iload C 4 dL_law_1324 rfl ?_
  refine x_iconst C (3) dL_law_1326 rfl ?_
  refine x_iadd C dL_law_1327 ?_
  refine x_sld C hs (i + 3) (by omega) (by omega) dL_law_1328 ?_
  refine x_aload_n C 0 dL_law_1329 rfl rfl ?_
  refine x_iload C 4 dL_law_1330 rfl ?_
  refine x_iconst C (4) dL_law_1332 rfl ?_
  refine x_iadd C dL_law_1333 ?_
  refine x_sld C hs (i + 4) (by omega) (by omega) dL_law_1334 ?_
  refine x_callV C (ct_X12_addOrder _ _ (xs (i + 1)).toInt (xs (i + 2)).toInt (xs (i + 3)).toInt (xs (i + 4)).toInt σ) mt_X12_addOrder vr_X12_addOrder wd1360 cls_X12 at_X12 rfl ⟨rfl, rfl, (Nat.le_of_ble_eq_true rfl), (Nat.le_of_ble_eq_true rfl)⟩ rfl (Nat.le_of_ble_eq_true rfl) dL_law_1335 (kVal h1 ?_)
  refine x_aload_n C 2 dL_law_1338 rfl rfl ?_
  refine x_aload_n C 0 dL_law_1339 rfl rfl ?_
  refine x_iload C 4 dL_law_1340 rfl ?_
  refine x_iconst C (1) dL_law_1342 rfl ?_
  refine x_iadd C dL_law_1343 ?_
  refine x_sld C hs (i + 1) (by omega) (by omega) dL_law_1344 ?_
  refine x_aload_n C 0 dL_law_1345 rfl rfl ?_
  refine x_iload C 4 dL_law_1346 rfl ?_
  refine x_iconst C (2) dL_law_1348 rfl ?_
  refine x_iadd C dL_law_1349 ?_
  refine x_sld C hs (i + 2) (by omega) (by omega) dL_law_1350 ?_
  refine x_aload_n C 0 dL_law_1351 rfl rfl ?_
  refine x_iload C 4 dL_law_1352 rfl ?_
  refine x_iconst C (3) dL_law_1354 rfl ?_
  refine x_iadd C dL_law_1355 ?_
  refine x_sld C hs (i + 3) (by omega) (by omega) dL_law_1356 ?_
  refine x_aload_n C 0 dL_law_1357 rfl rfl ?_
  refine x_iload C 4 dL_law_1358 rfl ?_
  refine x_iconst C (4) dL_law_1360 rfl ?_
  refine x_iadd C dL_law_1361 ?_
  refine x_sld C hs (i + 4) (by omega) (by omega) dL_law_1362 ?_
  refine x_callV C (ct_X13_addOrder _ _ 4000000 (xs (i + 1)).toInt (xs (i + 2)).toInt (xs (i + 3)).toInt (xs (i + 4)).toInt τ) mt_X13_addOrder vr_X13_addOrder wd2256 cls_X13 at_X13 rfl ⟨rfl, rfl, (Nat.le_of_ble_eq_true rfl), (Nat.le_of_ble_eq_true rfl)⟩ rfl (Nat.le_of_ble_eq_true rfl) dL_law_1363 (kVal h2 ?_)
  exact x_icmp_eq C 1446 rfl rfl dL_law_1366 rfl (fun _ => aft υ k z (Nat.le_refl _) (Nat.le_succ _) (Nat.le_refl _) (Nat.le_add_right _ _) hT) (fun c => absurd rfl c)
set_option maxHeartbeats 4000000 in
set_option maxRecDepth 100000 in
theorem lc_cancelOrder {ρ : Type} {X : xX} {Qf : ρ → State → Prop} {o : Option ρ} {σ : xS} {b Ln i k z m Lb : Nat} {xs : Nat → Int32} {β : Nat → Int} {B : Nat → Nat → Int} (Cg : xCg X cL_law "BakeryNightLaw" (some .boolean) room_1 7) (hs : lsS X b Ln xs) (hi : i + 6 ≤ Ln) (hk : k ≤ 601024 ∧ z ≤ 7293034) (h : TJ σ β Lb m B)
    (aft : LWaft X Qf o b i k z) : WO (xat X k z) Qf WW σ 1371 (lL X b i) [] o := by
  have C := Cg k z hk.1 hk.2
  have hs : lsS (xat X k z) b Ln xs := hs
  have hb1 := i32_bd (xs (i + 1))
  obtain ⟨v, τ, υ, h1, h2, hT⟩ := KALL_S (r := m_X13_cancelOrder 4000000 (xs (i + 1)).toInt) (q_cancelOrder h (Nat.le_refl 4000000) hb1.1 hb1.2)
  refine x_aload_n C 1 dL_law_1371 rfl rfl ?_
  refine x_aload_n C 0 dL_law_1372 rfl rfl ?_
  refine x_iload C 4 dL_law_1373 rfl ?_
  refine x_iconst C (1) dL_law_1375 rfl ?_
  refine x_iadd C dL_law_1376 ?_
  refine x_sld C hs (i + 1) (by omega) (by omega) dL_law_1377 ?_
  refine x_callV C (ct_X12_cancelOrder _ _ (xs (i + 1)).toInt σ) mt_X12_cancelOrder vr_X12_cancelOrder wd1365 cls_X12 at_X12 rfl ⟨rfl, rfl, (Nat.le_of_ble_eq_true rfl), (Nat.le_of_ble_eq_true rfl)⟩ rfl (Nat.le_of_ble_eq_true rfl) dL_law_1378 (kVal h1 ?_)
  refine x_aload_n C 2 dL_law_1381 rfl rfl ?_
  refine x_aload_n C 0 dL_law_1382 rfl rfl ?_
  refine x_iload C 4 dL_law_1383 rfl ?_
  refine x_iconst C (1) dL_law_1385 rfl ?_
  refine x_iadd C dL_law_1386 ?_
  refine x_sld C hs (i + 1) (by omega) (by omega) dL_law_1387 ?_
  refine x_callV C (ct_X13_cancelOrder _ _ 4000000 (xs (i + 1)).toInt τ) mt_X13_cancelOrder vr_X13_cancelOrder wd2261 cls_X13 at_X13 rfl ⟨rfl, rfl, (Nat.le_of_ble_eq_true rfl), (Nat.le_of_ble_eq_true rfl)⟩ rfl (Nat.le_of_ble_eq_true rfl) dL_law_1388 (kVal h2 ?_)
  exact x_icmp_eq C 1446 rfl rfl dL_law_1391 rfl (fun _ => aft υ k z (Nat.le_refl _) (Nat.le_succ _) (Nat.le_refl _) (Nat.le_add_right _ _) hT) (fun c => absurd rfl c)
set_option maxHeartbeats 4000000 in
set_option maxRecDepth 100000 in
theorem lc_moveOrder {ρ : Type} {X : xX} {Qf : ρ → State → Prop} {o : Option ρ} {σ : xS} {b Ln i k z m Lb : Nat} {xs : Nat → Int32} {β : Nat → Int} {B : Nat → Nat → Int} (Cg : xCg X cL_law "BakeryNightLaw" (some .boolean) room_1 7) (hs : lsS X b Ln xs) (hi : i + 6 ≤ Ln) (hk : k ≤ 601024 ∧ z ≤ 7293034) (h : TJ σ β Lb m B)
    (aft : LWaft X Qf o b i k z) : WO (xat X k z) Qf WW σ 1396 (lL X b i) [] o := by
  have C := Cg k z hk.1 hk.2
  have hs : lsS (xat X k z) b Ln xs := hs
  have hb1 := i32_bd (xs (i + 1))
  have hb2 := i32_bd (xs (i + 2))
  obtain ⟨v, τ, υ, h1, h2, hT⟩ := KALL_S (r := m_X13_moveOrder 4000000 (xs (i + 1)).toInt (xs (i + 2)).toInt) (q_moveOrder h (Nat.le_refl 4000000) hb1.1 hb1.2 hb2.1 hb2.2)
  refine x_aload_n C 1 dL_law_1396 rfl rfl ?_
  refine x_aload_n C 0 dL_law_1397 rfl rfl ?_
  refine x_iload C 4 dL_law_1398 rfl ?_
  refine x_iconst C (1) dL_law_1400 rfl ?_
  refine x_iadd C dL_law_1401 ?_
  refine x_sld C hs (i + 1) (by omega) (by omega) dL_law_1402 ?_
  refine x_aload_n C 0 dL_law_1403 rfl rfl ?_
  refine x_iload C 4 dL_law_1404 rfl ?_
  refine x_iconst C (2) dL_law_1406 rfl ?_
  refine x_iadd C dL_law_1407 ?_
  refine x_sld C hs (i + 2) (by omega) (by omega) dL_law_1408 ?_
  refine x_callV C (ct_X12_moveOrder _ _ (xs (i + 1)).toInt (xs (i + 2)).toInt σ) mt_X12_moveOrder vr_X12_moveOrder wd1369 cls_X12 at_X12 rfl ⟨rfl, rfl, (Nat.le_of_ble_eq_true rfl), (Nat.le_of_ble_eq_true rfl)⟩ rfl (Nat.le_of_ble_eq_true rfl) dL_law_1409 (kVal h1 ?_)
  refine x_aload_n C 2 dL_law_1412 rfl rfl ?_
  refine x_aload_n C 0 dL_law_1413 rfl rfl ?_
  refine x_iload C 4 dL_law_1414 rfl ?_
  refine x_iconst C (1) dL_law_1416 rfl ?_
  refine x_iadd C dL_law_1417 ?_
  refine x_sld C hs (i + 1) (by omega) (by omega) dL_law_1418 ?_
  refine x_aload_n C 0 dL_law_1419 rfl rfl ?_
  refine x_iload C 4 dL_law_1420 rfl ?_
  refine x_iconst C (2) dL_law_1422 rfl ?_
  refine x_iadd C dL_law_1423 ?_
  refine x_sld C hs (i + 2) (by omega) (by omega) dL_law_1424 ?_
  refine x_callV C (ct_X13_moveOrder _ _ 4000000 (xs (i + 1)).toInt (xs (i + 2)).toInt τ) mt_X13_moveOrder vr_X13_moveOrder wd2269 cls_X13 at_X13 rfl ⟨rfl, rfl, (Nat.le_of_ble_eq_true rfl), (Nat.le_of_ble_eq_true rfl)⟩ rfl (Nat.le_of_ble_eq_true rfl) dL_law_1425 (kVal h2 ?_)
  exact x_icmp_eq C 1446 rfl rfl dL_law_1428 rfl (fun _ => aft υ k z (Nat.le_refl _) (Nat.le_succ _) (Nat.le_refl _) (Nat.le_add_right _ _) hT) (fun c => absurd rfl c)
set_option maxHeartbeats 4000000 in
set_option maxRecDepth 100000 in
theorem lc_undo {ρ : Type} {X : xX} {Qf : ρ → State → Prop} {o : Option ρ} {σ : xS} {b Ln i k z m Lb : Nat} {xs : Nat → Int32} {β : Nat → Int} {B : Nat → Nat → Int} (Cg : xCg X cL_law "BakeryNightLaw" (some .boolean) room_1 7) (hs : lsS X b Ln xs) (hi : i + 6 ≤ Ln) (hk : k ≤ 601024 ∧ z ≤ 7293034) (h : TJ σ β Lb m B)
    (aft : LWaft X Qf o b i k z) : WO (xat X k z) Qf WW σ 1433 (lL X b i) [] o := by
  have C := Cg k z hk.1 hk.2
  have hs : lsS (xat X k z) b Ln xs := hs
  obtain ⟨v, τ, υ, h1, h2, hT⟩ := KALL_S (r := m_X13_undo 4000000) (q_undo h (Nat.le_refl 4000000) )
  refine x_aload_n C 1 dL_law_1433 rfl rfl ?_
  refine x_callV C (ct_X12_undo _ _ 4000000 σ) mt_X12_undo vr_X12_undo wd1373 cls_X12 at_X12 rfl ⟨rfl, rfl, (Nat.le_of_ble_eq_true rfl), (Nat.le_of_ble_eq_true rfl)⟩ rfl (Nat.le_of_ble_eq_true rfl) dL_law_1434 (kVal h1 ?_)
  refine x_aload_n C 2 dL_law_1437 rfl rfl ?_
  refine x_callV C (ct_X13_undo _ _ 4000000 τ) mt_X13_undo vr_X13_undo wd2273 cls_X13 at_X13 rfl ⟨rfl, rfl, (Nat.le_of_ble_eq_true rfl), (Nat.le_of_ble_eq_true rfl)⟩ rfl (Nat.le_of_ble_eq_true rfl) dL_law_1438 (kVal h2 ?_)
  exact x_icmp_eq C 1446 rfl rfl dL_law_1441 rfl (fun _ => aft υ k z (Nat.le_refl _) (Nat.le_succ _) (Nat.le_refl _) (Nat.le_add_right _ _) hT) (fun c => absurd rfl c)
