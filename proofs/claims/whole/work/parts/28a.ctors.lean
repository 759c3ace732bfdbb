/-! the constructors' contracts -/
theorem ac_byte : Cond.arrayClass .byte ∈ gw := (gw_mem (mt1 (at_l 80 rfl)) rfl)
theorem ac_int : Cond.arrayClass .int ∈ gw := (gw_mem (mt1 (at_l 119 rfl)) rfl)
theorem ac_long : Cond.arrayClass .long ∈ gw := (gw_mem (mt2 (at_l 59 rfl)) rfl)
theorem mtX1_init : MTc yX1_init cX1_init 1 0 := ⟨⟨(gw_mem (mt1 (at_l 4 rfl)) rfl), (gw_mem (mt1 (at_l 92 rfl)) rfl), (by decide +kernel), (by decide +kernel)⟩, (gw_mem (mt1 (at_l 91 rfl)) rfl), rfl⟩
theorem mtX3_init : MTc yX3_init cX3_init 2 1 := ⟨⟨(gw_mem (mt1 (at_l 6 rfl)) rfl), (gw_mem (mt1 (at_l 147 rfl)) rfl), (by decide +kernel), (by decide +kernel)⟩, (gw_mem (mt1 (at_l 146 rfl)) rfl), rfl⟩
theorem mtX2_init : MTc yX2_init cX2_init 2 0 := ⟨⟨(gw_mem (mt1 (at_l 5 rfl)) rfl), (gw_mem (mt1 (at_l 140 rfl)) rfl), (by decide +kernel), (by decide +kernel)⟩, (gw_mem (mt1 (at_l 139 rfl)) rfl), rfl⟩
theorem lnX2_9 : LN RX2 9 2 16 := ⟨RX3, TX3, tyX3, cf_X3, (gw_mem (mt1 (at_l 142 rfl)) rfl), (gw_mem (mt1 (at_l 144 rfl)) rfl), (gw_mem (mt1 (at_l 6 rfl)) rfl)⟩
theorem mtX4_init : MTc yX4_init cX4_init 1 0 := ⟨⟨(gw_mem (mt1 (at_l 7 rfl)) rfl), (gw_mem (mt2 (at_l 40 rfl)) rfl), (by decide +kernel), (by decide +kernel)⟩, (gw_mem (mt2 (at_l 39 rfl)) rfl), rfl⟩
theorem lnX4_9 : LN RX4 9 1 6 := ⟨RX2, TX2, tyX2, cf_X2, (gw_mem (mt2 (at_l 42 rfl)) rfl), (gw_mem (mt1 (at_l 137 rfl)) rfl), (gw_mem (mt1 (at_l 5 rfl)) rfl)⟩
theorem mtX5_init : MTc yX5_init cX5_init 2 0 := ⟨⟨(gw_mem (mt1 (at_l 8 rfl)) rfl), (gw_mem (mt2 (at_l 64 rfl)) rfl), (by decide +kernel), (by decide +kernel)⟩, (gw_mem (mt2 (at_l 63 rfl)) rfl), rfl⟩
theorem lnX5_9 : LN RX5 9 1 6 := ⟨RX2, TX2, tyX2, cf_X2, (gw_mem (mt2 (at_l 66 rfl)) rfl), (gw_mem (mt1 (at_l 137 rfl)) rfl), (gw_mem (mt1 (at_l 5 rfl)) rfl)⟩
theorem mtX6_init : MTc yX6_init cX6_init 2 0 := ⟨⟨(gw_mem (mt1 (at_l 3 rfl)) rfl), (gw_mem (mt1 (at_l 85 rfl)) rfl), (by decide +kernel), (by decide +kernel)⟩, (gw_mem (mt1 (at_l 84 rfl)) rfl), rfl⟩
theorem lnX6_11 : LN RX6 11 0 6 := ⟨RX1, TX1, tyX1, cf_X1, (gw_mem (mt1 (at_l 87 rfl)) rfl), (gw_mem (mt1 (at_l 89 rfl)) rfl), (gw_mem (mt1 (at_l 4 rfl)) rfl)⟩
theorem mtX7_init : MTc yX7_init cX7_init 1 0 := ⟨⟨(gw_mem (mt1 (at_l 9 rfl)) rfl), (gw_mem (mt2 (at_l 81 rfl)) rfl), (by decide +kernel), (by decide +kernel)⟩, (gw_mem (mt2 (at_l 80 rfl)) rfl), rfl⟩
theorem mtX9_init : MTc yX9_init cX9_init 1 0 := ⟨⟨(gw_mem (mt1 (at_l 2 rfl)) rfl), (gw_mem (mt1 (at_l 37 rfl)) rfl), (by decide +kernel), (by decide +kernel)⟩, (gw_mem (mt1 (at_l 36 rfl)) rfl), rfl⟩
theorem mtX11_init : MTc yX11_init cX11_init 1 0 := ⟨⟨(gw_mem (mt1 (at_l 1 rfl)) rfl), (gw_mem (mt1 (at_l 29 rfl)) rfl), (by decide +kernel), (by decide +kernel)⟩, (gw_mem (mt1 (at_l 28 rfl)) rfl), rfl⟩
theorem lnX11_7 : LN RX11 7 7 11 := ⟨RX9, TX9, tyX9, cf_X9, (gw_mem (mt1 (at_l 33 rfl)) rfl), (gw_mem (mt1 (at_l 34 rfl)) rfl), (gw_mem (mt1 (at_l 2 rfl)) rfl)⟩
theorem lnX11_16 : LN RX11 16 5 5 := ⟨RX6, TX6, tyX6, cf_X6, (gw_mem (mt1 (at_l 81 rfl)) rfl), (gw_mem (mt1 (at_l 82 rfl)) rfl), (gw_mem (mt1 (at_l 3 rfl)) rfl)⟩
theorem lnX11_23 : LN RX11 23 1 6 := ⟨RX2, TX2, tyX2, cf_X2, (gw_mem (mt1 (at_l 136 rfl)) rfl), (gw_mem (mt1 (at_l 137 rfl)) rfl), (gw_mem (mt1 (at_l 5 rfl)) rfl)⟩
theorem lnX11_36 : LN RX11 36 3 4 := ⟨RX4, TX4, tyX4, cf_X4, (gw_mem (mt2 (at_l 36 rfl)) rfl), (gw_mem (mt2 (at_l 37 rfl)) rfl), (gw_mem (mt1 (at_l 7 rfl)) rfl)⟩
theorem lnX11_43 : LN RX11 43 4 2 := ⟨RX5, TX5, tyX5, cf_X5, (gw_mem (mt2 (at_l 60 rfl)) rfl), (gw_mem (mt2 (at_l 61 rfl)) rfl), (gw_mem (mt1 (at_l 8 rfl)) rfl)⟩
theorem lnX11_50 : LN RX11 50 6 2 := ⟨RX7, TX7, tyX7, cf_X7, (gw_mem (mt2 (at_l 77 rfl)) rfl), (gw_mem (mt2 (at_l 78 rfl)) rfl), (gw_mem (mt1 (at_l 9 rfl)) rfl)⟩
theorem mtX12_init : MTc yX12_init cX12_init 1 0 := ⟨⟨(gw_mem (mt1 (at_l 10 rfl)) rfl), (gw_mem (mt6 (at_l 111 rfl)) rfl), (by decide +kernel), (by decide +kernel)⟩, (gw_mem (mt6 (at_l 110 rfl)) rfl), rfl⟩
theorem bc_60 : (Int8.ofInt (60)).toInt32 = (60 : Int32) := by decide +kernel
theorem sc_176 : (Int16.ofInt (176)).toInt32 = (176 : Int32) := by decide +kernel
theorem sc_1176 : (Int16.ofInt (1176)).toInt32 = (1176 : Int32) := by decide +kernel
theorem sc_1608 : (Int16.ofInt (1608)).toInt32 = (1608 : Int32) := by decide +kernel
theorem sc_9648 : (Int16.ofInt (9648)).toInt32 = (9648 : Int32) := by decide +kernel
set_option maxHeartbeats 4000000 in
theorem cX1_init_ok {l : Launch} {B : Nat} {D : va_G} {cT : Nat → ClassId} {n n' : Nat} {adK adV : Nat → Nat} {o0 : Nat} {μ res : Mem} (h0 : isK n o0 0) (hf : fX1_init o0 n 0 0 μ = some (res, n', 0, 0)) : MC l yX1_init cX1_init 1 rmX1_init B D cT (XW B adK adV) n [.ref (B + o0)] μ res n' := by
  refine tt_ofC mtX1_init (Nat.le_of_ble_eq_true rfl) rfl ?_
  intro p e s m below meth c E0 hr hlk hin2 hz
  have E : EE p s m _ c cX1_init 1 RX1 B D cT (XW B adK adV) := E0
  unfold fX1_init at hf
  have hn0 : 0 < n := Nat.lt_of_le_of_lt (Nat.zero_le _) h0.1
  refine tt_aload_n (pc := 0) (i := 0) (j := 0) E dX1_init_0 rfl rfl ?_
  refine tt_objInit (pc := 1) E (gw_mem (mt1 (at_l 93 rfl)) rfl) (Nat.le_of_ble_eq_true rfl) (Nat.le_of_ble_eq_true rfl) dX1_init_1 ?_
  refine tt_aload_n (pc := 4) (i := 0) (j := 0) E dX1_init_4 rfl rfl ?_
  refine tt_iconst (pc := 5) (v := 0) E dX1_init_5 ic_0 ?_
  refine tt_putI (pc := 6) E lfX1_9 rfl (ik_up h0 (by omega)) dX1_init_6 (tt_nmM hf (fun m_1 hf => ?_))
  refine tt_aload_n (pc := 9) (i := 0) (j := 0) E dX1_init_9 rfl rfl ?_
  refine tt_iconst (pc := 10) (v := 0) E dX1_init_10 ic_0 ?_
  refine tt_putI (pc := 11) E lfX1_15 rfl (ik_up h0 (by omega)) dX1_init_11 (tt_nmM hf (fun m_2 hf => ?_))
  refine tt_aload_n (pc := 14) (i := 0) (j := 0) E dX1_init_14 rfl rfl ?_
  refine tt_iconst (pc := 15) (v := 0) E dX1_init_15 ic_0 ?_
  refine tt_putI (pc := 16) E lfX1_18 rfl (ik_up h0 (by omega)) dX1_init_16 (tt_nmM hf (fun m_3 hf => ?_))
  refine tt_aload_n (pc := 19) (i := 0) (j := 0) E dX1_init_19 rfl rfl ?_
  refine tt_iconst (pc := 20) (v := 0) E dX1_init_20 ic_0 ?_
  refine tt_putI (pc := 21) E lfX1_21 rfl (ik_up h0 (by omega)) dX1_init_21 (tt_nmM hf (fun m_4 hf => ?_))
  refine tt_aload_n (pc := 24) (i := 0) (j := 0) E dX1_init_24 rfl rfl ?_
  refine tt_iconst (pc := 25) (v := 0) E dX1_init_25 ic_0 ?_
  refine tt_putI (pc := 26) E lfX1_24 rfl (ik_up h0 (by omega)) dX1_init_26 (tt_nmM hf (fun m_5 hf => ?_))
  refine tt_aload_n (pc := 29) (i := 0) (j := 0) E dX1_init_29 rfl rfl ?_
  refine tt_iconst (pc := 30) (v := 0) E dX1_init_30 ic_0 ?_
  refine tt_putI (pc := 31) E lfX1_27 rfl (ik_up h0 (by omega)) dX1_init_31 (tt_nmM hf (fun m_6 hf => ?_))
  exact tt_cret (pc := 34) E hr hlk dX1_init_34 hf
set_option maxHeartbeats 4000000 in
theorem cX3_init_ok {l : Launch} {B : Nat} {D : va_G} {cT : Nat → ClassId} {n n' : Nat} {adK adV : Nat → Nat} {o0 : Nat} {v1 : Int32} {μ res : Mem} (h0 : isK n o0 2) (hf : fX3_init o0 v1 n 0 0 μ = some (res, n', 2, 12)) : MC l yX3_init cX3_init 2 rmX3_init B D cT (XW B adK adV) n [.ref (B + o0), .int v1] μ res n' := by
  refine tt_ofC mtX3_init (Nat.le_of_ble_eq_true rfl) rfl ?_
  intro p e s m below meth c E0 hr hlk hin2 hz
  have E : EE p s m _ c cX3_init 2 RX3 B D cT (XW B adK adV) := E0
  unfold fX3_init at hf
  have hn0 : 0 < n := Nat.lt_of_le_of_lt (Nat.zero_le _) h0.1
  refine tt_aload_n (pc := 0) (i := 0) (j := 0) E dX3_init_0 rfl rfl ?_
  refine tt_objInit (pc := 1) E (gw_mem (mt1 (at_l 148 rfl)) rfl) (Nat.le_of_ble_eq_true rfl) (Nat.le_of_ble_eq_true rfl) dX3_init_1 ?_
  refine tt_aload_n (pc := 4) (i := 0) (j := 0) E dX3_init_4 rfl rfl ?_
  refine tt_bipush (pc := 5) (v := 6) E dX3_init_5 bc_6 ?_
  obtain ⟨g_1, hf⟩ := gd_some hf
  obtain ⟨g_1a, g_1e, g_1d, g_1b, g_1c⟩ := of_decide_eq_true g_1
  refine tt_newa11 (pc := 7) E ac_int (by omega) (Or.inl (by omega)) (decide_eq_true g_1a) g_1e (decide_eq_true g_1d) g_1b g_1c dX3_init_7 (tt_nmM hf (fun m_2 hf => ?_))
  refine tt_putFP (pc := 9) E hin2 lfX3_9 (fun _ _ _ h => by cases h; rfl) rfl (ik_up h0 (by omega)) (ik_up (ik_new (decide_eq_true g_1a) rfl) (by omega)) dX3_init_9 (tt_nmM hf (fun m_3 hf => ?_))
  refine tt_aload_n (pc := 12) (i := 0) (j := 0) E dX3_init_12 rfl rfl ?_
  refine tt_bipush (pc := 13) (v := 6) E dX3_init_13 bc_6 ?_
  obtain ⟨g_4, hf⟩ := gd_some hf
  obtain ⟨g_4a, g_4e, g_4d, g_4b, g_4c⟩ := of_decide_eq_true g_4
  refine tt_newa11 (pc := 15) E ac_int (by omega) (Or.inl (by omega)) (decide_eq_true g_4a) g_4e (decide_eq_true g_4d) g_4b g_4c dX3_init_15 (tt_nmM hf (fun m_5 hf => ?_))
  refine tt_putFP (pc := 17) E hin2 lfX3_15 (fun _ _ _ h => by cases h; rfl) rfl (ik_up h0 (by omega)) (ik_up (ik_new (decide_eq_true g_4a) rfl) (by omega)) dX3_init_17 (tt_nmM hf (fun m_6 hf => ?_))
  refine tt_aload_n (pc := 20) (i := 0) (j := 0) E dX3_init_20 rfl rfl ?_
  refine tt_iconst (pc := 21) (v := 0) E dX3_init_21 ic_0 ?_
  refine tt_putI (pc := 22) E lfX3_18 rfl (ik_up h0 (by omega)) dX3_init_22 (tt_nmM hf (fun m_7 hf => ?_))
  refine tt_aload_n (pc := 25) (i := 0) (j := 0) E dX3_init_25 rfl rfl ?_
  refine tt_lconst (pc := 26) (v := 0) E dX3_init_26 lc_0 ?_
  refine tt_putJ (pc := 27) E lfX3_22 rfl (ik_up h0 (by omega)) dX3_init_27 (tt_nmM hf (fun m_8 hf => ?_))
  refine tt_aload_n (pc := 30) (i := 0) (j := 0) E dX3_init_30 rfl rfl ?_
  refine tt_iconst (pc := 31) (v := 0) E dX3_init_31 ic_0 ?_
  refine tt_putI (pc := 32) E lfX3_26 rfl (ik_up h0 (by omega)) dX3_init_32 (tt_nmM hf (fun m_9 hf => ?_))
  refine tt_aload_n (pc := 35) (i := 0) (j := 0) E dX3_init_35 rfl rfl ?_
  refine tt_iconst (pc := 36) (v := 0) E dX3_init_36 ic_0 ?_
  refine tt_putI (pc := 37) E lfX3_29 rfl (ik_up h0 (by omega)) dX3_init_37 (tt_nmM hf (fun m_10 hf => ?_))
  refine tt_aload_n (pc := 40) (i := 0) (j := 0) E dX3_init_40 rfl rfl ?_
  refine tt_iconst (pc := 41) (v := 0) E dX3_init_41 ic_0 ?_
  refine tt_putI (pc := 42) E lfX3_32 rfl (ik_up h0 (by omega)) dX3_init_42 (tt_nmM hf (fun m_11 hf => ?_))
  refine tt_aload_n (pc := 45) (i := 0) (j := 0) E dX3_init_45 rfl rfl ?_
  refine tt_iconst (pc := 46) (v := 0) E dX3_init_46 ic_0 ?_
  refine tt_putI (pc := 47) E lfX3_35 rfl (ik_up h0 (by omega)) dX3_init_47 (tt_nmM hf (fun m_12 hf => ?_))
  refine tt_aload_n (pc := 50) (i := 0) (j := 0) E dX3_init_50 rfl rfl ?_
  refine tt_iconst (pc := 51) (v := 0) E dX3_init_51 ic_0 ?_
  refine tt_putI (pc := 52) E lfX3_38 rfl (ik_up h0 (by omega)) dX3_init_52 (tt_nmM hf (fun m_13 hf => ?_))
  refine tt_aload_n (pc := 55) (i := 0) (j := 0) E dX3_init_55 rfl rfl ?_
  refine tt_iconst (pc := 56) (v := 0) E dX3_init_56 ic_0 ?_
  refine tt_putI (pc := 57) E lfX3_41 rfl (ik_up h0 (by omega)) dX3_init_57 (tt_nmM hf (fun m_14 hf => ?_))
  refine tt_aload_n (pc := 60) (i := 0) (j := 0) E dX3_init_60 rfl rfl ?_
  refine tt_iconst (pc := 61) (v := 0) E dX3_init_61 ic_0 ?_
  refine tt_putI (pc := 62) E lfX3_44 rfl (ik_up h0 (by omega)) dX3_init_62 (tt_nmM hf (fun m_15 hf => ?_))
  refine tt_aload_n (pc := 65) (i := 0) (j := 0) E dX3_init_65 rfl rfl ?_
  refine tt_iconst (pc := 66) (v := 0) E dX3_init_66 ic_0 ?_
  refine tt_putI (pc := 67) E lfX3_47 rfl (ik_up h0 (by omega)) dX3_init_67 (tt_nmM hf (fun m_16 hf => ?_))
  refine tt_aload_n (pc := 70) (i := 0) (j := 0) E dX3_init_70 rfl rfl ?_
  refine tt_iconst (pc := 71) (v := 0) E dX3_init_71 ic_0 ?_
  refine tt_putI (pc := 72) E lfX3_50 rfl (ik_up h0 (by omega)) dX3_init_72 (tt_nmM hf (fun m_17 hf => ?_))
  refine tt_aload_n (pc := 75) (i := 0) (j := 0) E dX3_init_75 rfl rfl ?_
  refine tt_iconst (pc := 76) (v := 0) E dX3_init_76 ic_0 ?_
  refine tt_putI (pc := 77) E lfX3_53 rfl (ik_up h0 (by omega)) dX3_init_77 (tt_nmM hf (fun m_18 hf => ?_))
  refine tt_aload_n (pc := 80) (i := 0) (j := 0) E dX3_init_80 rfl rfl ?_
  refine tt_iconst (pc := 81) (v := 0) E dX3_init_81 ic_0 ?_
  refine tt_putI (pc := 82) E lfX3_56 rfl (ik_up h0 (by omega)) dX3_init_82 (tt_nmM hf (fun m_19 hf => ?_))
  refine tt_aload_n (pc := 85) (i := 0) (j := 0) E dX3_init_85 rfl rfl ?_
  refine tt_iload_n (pc := 86) (i := 1) (j := 1) E dX3_init_86 rfl rfl ?_
  refine tt_putFI (pc := 87) E hin2 lfX3_59 (fun _ _ _ h => by cases h; rfl) rfl (ik_up h0 (by omega)) dX3_init_87 (tt_nmM hf (fun m_20 hf => ?_))
  exact tt_cret (pc := 90) E hr hlk dX3_init_90 hf
set_option maxHeartbeats 4000000 in
theorem tX2_init_49 {p : Program} {l : Launch} {e : Env} {s : State} {m : MethodId} {args : Array Value} {below : List Frame} {meth : Method} {c : Code} {B : Nat} {D : va_G} {cT : Nat → ClassId} {adK adV : Nat → Nat} {res : Mem} {n' : Nat} (E : EE p s m args c cX2_init 2 RX2 B D cT (XW B adK adV)) (hr : meth.sig.returnType = none) (hlk : meth.locks = false) (hin2 : meth.name = "<init>") {o0 : Nat} : ∀ (fu : Nat) (v1 : Int32) (n kc ks : Nat) (μ : Mem) (h0 : isK n o0 1) (hz : s.heap.size + kc = B + n), zl5 (gX2_init_49 o0) fu v1 n kc ks μ = some (res, n', 28, 260) → TT p l e rmX2_init s m args below meth c (QC B D cT n' 28 260 below args s res) 2 B D cT n kc ks μ 49 [(0, .ref (B + o0)), (1, .int v1)] [] := by
  intro fu
  induction fu with
  | zero => intro v1 n kc ks μ h0 hz hf; exact absurd hf (fun h => by cases h)
  | succ fu ih =>
    intro v1 n kc ks μ h0 hz hf
    have hf : gX2_init_49 o0 (zl5 (gX2_init_49 o0) fu) v1 n kc ks μ = some (res, n', 28, 260) := hf
    unfold gX2_init_49 at hf
    have hn0 : 0 < n := Nat.lt_of_le_of_lt (Nat.zero_le _) h0.1
    have rc_0 : rmX3_init.cells = 2 := rfl
    refine tt_iload_n (pc := 49) (i := 1) (j := 1) E dX2_init_49 rfl rfl ?_
    refine tt_aload_n (pc := 50) (i := 0) (j := 0) E dX2_init_50 rfl rfl ?_
    obtain ⟨q_1, hq_2, hf⟩ := bd_some hf
    refine tt_getP (pc := 51) (t := 15) E lfX2_11 rfl rfl (ik_up h0 (by omega)) dX2_init_51 hq_2 (fun kq_3 => ?_)
    refine tt_alen (pc := 54) (v := Int32.ofNat (Ln q_1)) E (k := 15) ⟨(Nat.le_of_ble_eq_true rfl), (Nat.le_of_ble_eq_true rfl)⟩ (ik_up kq_3 (by omega)) rfl dX2_init_54 ?_
    refine tt_icmp_ge (pc := 55) (tgt := 78) E dX2_init_55 rfl (fun c_18 => ?_) (fun c_18 => ?_)
    · have hf := ip c_18 hf
      exact tt_cret (pc := 78) E hr hlk dX2_init_78 hf
    · have hf := ine c_18 hf
      refine tt_aload_n (pc := 58) (i := 0) (j := 0) E dX2_init_58 rfl rfl ?_
      obtain ⟨q_4, hq_5, hf⟩ := bd_some hf
      refine tt_getP (pc := 59) (t := 15) E lfX2_11 rfl rfl (ik_up h0 (by omega)) dX2_init_59 hq_5 (fun kq_6 => ?_)
      refine tt_iload_n (pc := 62) (i := 1) (j := 1) E dX2_init_62 rfl rfl ?_
      obtain ⟨g_7, hf⟩ := gd_some hf
      obtain ⟨g_7a, g_7b, g_7c⟩ := of_decide_eq_true g_7
      refine tt_new (pc := 63) E lnX2_9 (by omega) (Or.inl (by omega)) (decide_eq_true g_7a) g_7b g_7c dX2_init_63 (tt_nmM hf (fun m_8 hf => ?_))
      refine tt_dup (pc := 66) E dX2_init_66 rfl ?_
      refine tt_iload_n (pc := 67) (i := 1) (j := 1) E dX2_init_67 rfl rfl ?_
      obtain ⟨r_9, hr_10, hf⟩ := bd_some hf
      obtain ⟨g_13, hf⟩ := gd_some hf
      obtain ⟨g_13a, g_13b, g_13c⟩ := of_decide_eq_true g_13
      obtain ⟨m_11, r_14⟩ := r_9
      have g_13d : r_14 = (n + 3, 2, 12) := g_13a
      subst g_13d
      refine tt_cC (pc := 68) E (gw_mem (mt1 (at_l 145 rfl)) rfl) mtX3_init (cX3_init_ok (ik_up (ik_new (decide_eq_true g_7a) rfl) (by omega)) hr_10) (by omega) (Or.inl (by omega)) rfl rfl (Nat.le_of_ble_eq_true rfl) ⟨(Nat.le_of_ble_eq_true rfl), (Nat.le_of_ble_eq_true rfl)⟩ ⟨g_13b, g_13c⟩ dX2_init_68 (tt_nmM (X := m_11) hf (fun m_12 hf => ?_))
      obtain ⟨g_16, hf⟩ := gd_some hf
      refine tt_aast15 (pc := 71) E (ik_up kq_6 (by omega)) g_16 (ik_up (ik_new (decide_eq_true g_7a) rfl) (by omega)) dX2_init_71 (tt_nmM hf (fun m_15 hf => ?_))
      obtain ⟨v_17, ev_17, hf⟩ := nm_ex hf
      refine tt_iinc (pc := 72) (i := 1) (j := 1) (lv' := [(1, .int v_17), (0, .ref (B + o0))]) E dX2_init_72 rfl (ev_17).symm (Nat.le_of_ble_eq_true rfl) rfl ?_
      refine tt_goto (pc := 75) (tgt := 49) E dX2_init_75 rfl ?_
      refine tt_sub [1, 0] (lv' := [(0, .ref (B + o0)), (1, .int v_17)]) rfl ?_
      exact ih v_17 _ _ _ m_15 (ik_up h0 (by omega)) (by omega) hf
set_option maxHeartbeats 4000000 in
theorem cX2_init_ok {l : Launch} {B : Nat} {D : va_G} {cT : Nat → ClassId} {n n' : Nat} {adK adV : Nat → Nat} {o0 : Nat} {μ res : Mem} (h0 : isK n o0 1) (hf : fX2_init o0 n 0 0 μ = some (res, n', 28, 260)) : MC l yX2_init cX2_init 2 rmX2_init B D cT (XW B adK adV) n [.ref (B + o0)] μ res n' := by
  refine tt_ofC mtX2_init (Nat.le_of_ble_eq_true rfl) rfl ?_
  intro p e s m below meth c E0 hr hlk hin2 hz
  have E : EE p s m _ c cX2_init 2 RX2 B D cT (XW B adK adV) := E0
  unfold fX2_init at hf
  have hn0 : 0 < n := Nat.lt_of_le_of_lt (Nat.zero_le _) h0.1
  have rc_0 : rmX3_init.cells = 2 := rfl
  refine tt_aload_n (pc := 0) (i := 0) (j := 0) E dX2_init_0 rfl rfl ?_
  refine tt_objInit (pc := 1) E (gw_mem (mt1 (at_l 141 rfl)) rfl) (Nat.le_of_ble_eq_true rfl) (Nat.le_of_ble_eq_true rfl) dX2_init_1 ?_
  refine tt_aload_n (pc := 4) (i := 0) (j := 0) E dX2_init_4 rfl rfl ?_
  refine tt_bipush (pc := 5) (v := 8) E dX2_init_5 bc_8 ?_
  obtain ⟨g_1, hf⟩ := gd_some hf
  obtain ⟨g_1a, g_1e, g_1d, g_1b, g_1c⟩ := of_decide_eq_true g_1
  refine tt_anewa15 (pc := 7) E (gw_mem (mt1 (at_l 142 rfl)) rfl) (by decide) (by omega) (Or.inl (by omega)) (decide_eq_true g_1a) g_1e (decide_eq_true g_1d) g_1b g_1c dX2_init_7 (tt_nmM hf (fun m_2 hf => ?_))
  refine tt_putFP (pc := 10) E hin2 lfX2_11 (fun _ _ _ h => by cases h; rfl) rfl (ik_up h0 (by omega)) (ik_up (ik_new (decide_eq_true g_1a) rfl) (by omega)) dX2_init_10 (tt_nmM hf (fun m_3 hf => ?_))
  refine tt_aload_n (pc := 13) (i := 0) (j := 0) E dX2_init_13 rfl rfl ?_
  obtain ⟨g_4, hf⟩ := gd_some hf
  obtain ⟨g_4a, g_4b, g_4c⟩ := of_decide_eq_true g_4
  refine tt_new (pc := 14) E lnX2_9 (by omega) (Or.inl (by omega)) (decide_eq_true g_4a) g_4b g_4c dX2_init_14 (tt_nmM hf (fun m_5 hf => ?_))
  refine tt_dup (pc := 17) E dX2_init_17 rfl ?_
  refine tt_iconst (pc := 18) (v := (-1)) E dX2_init_18 ic_m1 ?_
  obtain ⟨r_6, hr_7, hf⟩ := bd_some hf
  obtain ⟨g_10, hf⟩ := gd_some hf
  obtain ⟨g_10a, g_10b, g_10c⟩ := of_decide_eq_true g_10
  obtain ⟨m_8, r_11⟩ := r_6
  have g_10d : r_11 = (n + 4, 2, 12) := g_10a
  subst g_10d
  refine tt_cC (pc := 19) E (gw_mem (mt1 (at_l 145 rfl)) rfl) mtX3_init (cX3_init_ok (ik_up (ik_new (decide_eq_true g_4a) rfl) (by omega)) hr_7) (by omega) (Or.inl (by omega)) rfl rfl (Nat.le_of_ble_eq_true rfl) ⟨(Nat.le_of_ble_eq_true rfl), (Nat.le_of_ble_eq_true rfl)⟩ ⟨g_10b, g_10c⟩ dX2_init_19 (tt_nmM (X := m_8) hf (fun m_9 hf => ?_))
  refine tt_putFP (pc := 22) E hin2 lfX2_20 (fun _ _ _ h => by cases h; rfl) rfl (ik_up h0 (by omega)) (ik_up (ik_new (decide_eq_true g_4a) rfl) (by omega)) dX2_init_22 (tt_nmM hf (fun m_12 hf => ?_))
  refine tt_aload_n (pc := 25) (i := 0) (j := 0) E dX2_init_25 rfl rfl ?_
  refine tt_iconst (pc := 26) (v := 0) E dX2_init_26 ic_0 ?_
  refine tt_putI (pc := 27) E lfX2_24 rfl (ik_up h0 (by omega)) dX2_init_27 (tt_nmM hf (fun m_13 hf => ?_))
  refine tt_aload_n (pc := 30) (i := 0) (j := 0) E dX2_init_30 rfl rfl ?_
  refine tt_sipush (pc := 31) (v := 300) E dX2_init_31 sc_300 ?_
  refine tt_putI (pc := 34) E lfX2_28 rfl (ik_up h0 (by omega)) dX2_init_34 (tt_nmM hf (fun m_14 hf => ?_))
  refine tt_aload_n (pc := 37) (i := 0) (j := 0) E dX2_init_37 rfl rfl ?_
  refine tt_iconst (pc := 38) (v := 0) E dX2_init_38 ic_0 ?_
  refine tt_putI (pc := 39) E lfX2_31 rfl (ik_up h0 (by omega)) dX2_init_39 (tt_nmM hf (fun m_15 hf => ?_))
  refine tt_aload_n (pc := 42) (i := 0) (j := 0) E dX2_init_42 rfl rfl ?_
  refine tt_iconst (pc := 43) (v := 0) E dX2_init_43 ic_0 ?_
  refine tt_putI (pc := 44) E lfX2_34 rfl (ik_up h0 (by omega)) dX2_init_44 (tt_nmM hf (fun m_16 hf => ?_))
  refine tt_iconst (pc := 47) (v := 0) E dX2_init_47 ic_0 ?_
  refine tt_istore_n (pc := 48) (i := 1) (lv' := [(1, .int 0), (0, .ref (B + o0))]) E dX2_init_48 rfl (Nat.le_of_ble_eq_true rfl) rfl ?_
  refine tt_sub [1, 0] (lv' := [(0, .ref (B + o0)), (1, .int 0)]) rfl ?_
  exact tX2_init_49 E hr hlk hin2 FU 0 _ _ _ m_16 (ik_up h0 (by omega)) (by omega) hf
set_option maxHeartbeats 4000000 in
theorem cX4_init_ok {l : Launch} {B : Nat} {D : va_G} {cT : Nat → ClassId} {n n' : Nat} {adK adV : Nat → Nat} {o0 : Nat} {μ res : Mem} (h0 : isK n o0 3) (hf : fX4_init o0 n 0 0 μ = some (res, n', 30, 1874)) : MC l yX4_init cX4_init 1 rmX4_init B D cT (XW B adK adV) n [.ref (B + o0)] μ res n' := by
  refine tt_ofC mtX4_init (Nat.le_of_ble_eq_true rfl) rfl ?_
  intro p e s m below meth c E0 hr hlk hin2 hz
  have E : EE p s m _ c cX4_init 1 RX4 B D cT (XW B adK adV) := E0
  unfold fX4_init at hf
  have hn0 : 0 < n := Nat.lt_of_le_of_lt (Nat.zero_le _) h0.1
  have rc_0 : rmX2_init.cells = 28 := rfl
  refine tt_aload_n (pc := 0) (i := 0) (j := 0) E dX4_init_0 rfl rfl ?_
  refine tt_objInit (pc := 1) E (gw_mem (mt2 (at_l 41 rfl)) rfl) (Nat.le_of_ble_eq_true rfl) (Nat.le_of_ble_eq_true rfl) dX4_init_1 ?_
  refine tt_aload_n (pc := 4) (i := 0) (j := 0) E dX4_init_4 rfl rfl ?_
  obtain ⟨g_1, hf⟩ := gd_some hf
  obtain ⟨g_1a, g_1b, g_1c⟩ := of_decide_eq_true g_1
  refine tt_new (pc := 5) E lnX4_9 (by omega) (Or.inl (by omega)) (decide_eq_true g_1a) g_1b g_1c dX4_init_5 (tt_nmM hf (fun m_2 hf => ?_))
  refine tt_dup (pc := 8) E dX4_init_8 rfl ?_
  obtain ⟨r_3, hr_4, hf⟩ := bd_some hf
  obtain ⟨g_7, hf⟩ := gd_some hf
  obtain ⟨g_7a, g_7b, g_7c⟩ := of_decide_eq_true g_7
  obtain ⟨m_5, r_8⟩ := r_3
  have g_7d : r_8 = (n + 29, 28, 260) := g_7a
  subst g_7d
  refine tt_cC (pc := 9) E (gw_mem (mt2 (at_l 43 rfl)) rfl) mtX2_init (cX2_init_ok (ik_up (ik_new (decide_eq_true g_1a) rfl) (by omega)) hr_4) (by omega) (Or.inl (by omega)) rfl rfl (Nat.le_of_ble_eq_true rfl) ⟨(Nat.le_of_ble_eq_true rfl), (Nat.le_of_ble_eq_true rfl)⟩ ⟨g_7b, g_7c⟩ dX4_init_9 (tt_nmM (X := m_5) hf (fun m_6 hf => ?_))
  refine tt_putFP (pc := 12) E hin2 lfX4_12 (fun _ _ _ h => by cases h; rfl) rfl (ik_up h0 (by omega)) (ik_up (ik_new (decide_eq_true g_1a) rfl) (by omega)) dX4_init_12 (tt_nmM hf (fun m_9 hf => ?_))
  refine tt_aload_n (pc := 15) (i := 0) (j := 0) E dX4_init_15 rfl rfl ?_
  refine tt_sipush (pc := 16) (v := 1608) E dX4_init_16 sc_1608 ?_
  obtain ⟨g_10, hf⟩ := gd_some hf
  obtain ⟨g_10a, g_10e, g_10d, g_10b, g_10c⟩ := of_decide_eq_true g_10
  refine tt_newa12 (pc := 19) E ac_long (by omega) (Or.inl (by omega)) (decide_eq_true g_10a) g_10e (decide_eq_true g_10d) g_10b g_10c dX4_init_19 (tt_nmM hf (fun m_11 hf => ?_))
  refine tt_putFP (pc := 21) E hin2 lfX4_18 (fun _ _ _ h => by cases h; rfl) rfl (ik_up h0 (by omega)) (ik_up (ik_new (decide_eq_true g_10a) rfl) (by omega)) dX4_init_21 (tt_nmM hf (fun m_12 hf => ?_))
  refine tt_aload_n (pc := 24) (i := 0) (j := 0) E dX4_init_24 rfl rfl ?_
  refine tt_iconst (pc := 25) (v := (-1)) E dX4_init_25 ic_m1 ?_
  refine tt_putI (pc := 26) E lfX4_22 rfl (ik_up h0 (by omega)) dX4_init_26 (tt_nmM hf (fun m_13 hf => ?_))
  refine tt_aload_n (pc := 29) (i := 0) (j := 0) E dX4_init_29 rfl rfl ?_
  refine tt_iconst (pc := 30) (v := (-1)) E dX4_init_30 ic_m1 ?_
  refine tt_putI (pc := 31) E lfX4_26 rfl (ik_up h0 (by omega)) dX4_init_31 (tt_nmM hf (fun m_14 hf => ?_))
  exact tt_cret (pc := 34) E hr hlk dX4_init_34 hf
set_option maxHeartbeats 4000000 in
theorem tX5_init_20 {p : Program} {l : Launch} {e : Env} {s : State} {m : MethodId} {args : Array Value} {below : List Frame} {meth : Method} {c : Code} {B : Nat} {D : va_G} {cT : Nat → ClassId} {adK adV : Nat → Nat} {res : Mem} {n' : Nat} (E : EE p s m args c cX5_init 2 RX5 B D cT (XW B adK adV)) (hr : meth.sig.returnType = none) (hlk : meth.locks = false) (hin2 : meth.name = "<init>") {o0 : Nat} : ∀ (fu : Nat) (v1 : Int32) (n kc ks : Nat) (μ : Mem) (h0 : isK n o0 4) (hz : s.heap.size + kc = B + n), zl5 (gX5_init_20 o0) fu v1 n kc ks μ = some (res, n', 175, 1602) → TT p l e rmX5_init s m args below meth c (QC B D cT n' 175 1602 below args s res) 2 B D cT n kc ks μ 20 [(0, .ref (B + o0)), (1, .int v1)] [] := by
  intro fu
  induction fu with
  | zero => intro v1 n kc ks μ h0 hz hf; exact absurd hf (fun h => by cases h)
  | succ fu ih =>
    intro v1 n kc ks μ h0 hz hf
    have hf : gX5_init_20 o0 (zl5 (gX5_init_20 o0) fu) v1 n kc ks μ = some (res, n', 175, 1602) := hf
    unfold gX5_init_20 at hf
    have hn0 : 0 < n := Nat.lt_of_le_of_lt (Nat.zero_le _) h0.1
    have rc_0 : rmX2_init.cells = 28 := rfl
    refine tt_iload_n (pc := 20) (i := 1) (j := 1) E dX5_init_20 rfl rfl ?_
    refine tt_aload_n (pc := 21) (i := 0) (j := 0) E dX5_init_21 rfl rfl ?_
    obtain ⟨q_1, hq_2, hf⟩ := bd_some hf
    refine tt_getP (pc := 22) (t := 14) E lfX5_11 rfl rfl (ik_up h0 (by omega)) dX5_init_22 hq_2 (fun kq_3 => ?_)
    refine tt_alen (pc := 25) (v := Int32.ofNat (Ln q_1)) E (k := 14) ⟨(Nat.le_of_ble_eq_true rfl), (Nat.le_of_ble_eq_true rfl)⟩ (ik_up kq_3 (by omega)) rfl dX5_init_25 ?_
    refine tt_icmp_ge (pc := 26) (tgt := 48) E dX5_init_26 rfl (fun c_18 => ?_) (fun c_18 => ?_)
    · have hf := ip c_18 hf
      exact tt_cret (pc := 48) E hr hlk dX5_init_48 hf
    · have hf := ine c_18 hf
      refine tt_aload_n (pc := 29) (i := 0) (j := 0) E dX5_init_29 rfl rfl ?_
      obtain ⟨q_4, hq_5, hf⟩ := bd_some hf
      refine tt_getP (pc := 30) (t := 14) E lfX5_11 rfl rfl (ik_up h0 (by omega)) dX5_init_30 hq_5 (fun kq_6 => ?_)
      refine tt_iload_n (pc := 33) (i := 1) (j := 1) E dX5_init_33 rfl rfl ?_
      obtain ⟨g_7, hf⟩ := gd_some hf
      obtain ⟨g_7a, g_7b, g_7c⟩ := of_decide_eq_true g_7
      refine tt_new (pc := 34) E lnX5_9 (by omega) (Or.inl (by omega)) (decide_eq_true g_7a) g_7b g_7c dX5_init_34 (tt_nmM hf (fun m_8 hf => ?_))
      refine tt_dup (pc := 37) E dX5_init_37 rfl ?_
      obtain ⟨r_9, hr_10, hf⟩ := bd_some hf
      obtain ⟨g_13, hf⟩ := gd_some hf
      obtain ⟨g_13a, g_13b, g_13c⟩ := of_decide_eq_true g_13
      obtain ⟨m_11, r_14⟩ := r_9
      have g_13d : r_14 = (n + 29, 28, 260) := g_13a
      subst g_13d
      refine tt_cC (pc := 38) E (gw_mem (mt2 (at_l 68 rfl)) rfl) mtX2_init (cX2_init_ok (ik_up (ik_new (decide_eq_true g_7a) rfl) (by omega)) hr_10) (by omega) (Or.inl (by omega)) rfl rfl (Nat.le_of_ble_eq_true rfl) ⟨(Nat.le_of_ble_eq_true rfl), (Nat.le_of_ble_eq_true rfl)⟩ ⟨g_13b, g_13c⟩ dX5_init_38 (tt_nmM (X := m_11) hf (fun m_12 hf => ?_))
      obtain ⟨g_16, hf⟩ := gd_some hf
      refine tt_aast14 (pc := 41) E (ik_up kq_6 (by omega)) g_16 (ik_up (ik_new (decide_eq_true g_7a) rfl) (by omega)) dX5_init_41 (tt_nmM hf (fun m_15 hf => ?_))
      obtain ⟨v_17, ev_17, hf⟩ := nm_ex hf
      refine tt_iinc (pc := 42) (i := 1) (j := 1) (lv' := [(1, .int v_17), (0, .ref (B + o0))]) E dX5_init_42 rfl (ev_17).symm (Nat.le_of_ble_eq_true rfl) rfl ?_
      refine tt_goto (pc := 45) (tgt := 20) E dX5_init_45 rfl ?_
      refine tt_sub [1, 0] (lv' := [(0, .ref (B + o0)), (1, .int v_17)]) rfl ?_
      exact ih v_17 _ _ _ m_15 (ik_up h0 (by omega)) (by omega) hf
set_option maxHeartbeats 4000000 in
theorem cX5_init_ok {l : Launch} {B : Nat} {D : va_G} {cT : Nat → ClassId} {n n' : Nat} {adK adV : Nat → Nat} {o0 : Nat} {μ res : Mem} (h0 : isK n o0 4) (hf : fX5_init o0 n 0 0 μ = some (res, n', 175, 1602)) : MC l yX5_init cX5_init 2 rmX5_init B D cT (XW B adK adV) n [.ref (B + o0)] μ res n' := by
  refine tt_ofC mtX5_init (Nat.le_of_ble_eq_true rfl) rfl ?_
  intro p e s m below meth c E0 hr hlk hin2 hz
  have E : EE p s m _ c cX5_init 2 RX5 B D cT (XW B adK adV) := E0
  unfold fX5_init at hf
  have hn0 : 0 < n := Nat.lt_of_le_of_lt (Nat.zero_le _) h0.1
  have rc_0 : rmX2_init.cells = 28 := rfl
  refine tt_aload_n (pc := 0) (i := 0) (j := 0) E dX5_init_0 rfl rfl ?_
  refine tt_objInit (pc := 1) E (gw_mem (mt2 (at_l 65 rfl)) rfl) (Nat.le_of_ble_eq_true rfl) (Nat.le_of_ble_eq_true rfl) dX5_init_1 ?_
  refine tt_aload_n (pc := 4) (i := 0) (j := 0) E dX5_init_4 rfl rfl ?_
  refine tt_bipush (pc := 5) (v := 6) E dX5_init_5 bc_6 ?_
  obtain ⟨g_1, hf⟩ := gd_some hf
  obtain ⟨g_1a, g_1e, g_1d, g_1b, g_1c⟩ := of_decide_eq_true g_1
  refine tt_anewa14 (pc := 7) E (gw_mem (mt2 (at_l 66 rfl)) rfl) (by decide) (by omega) (Or.inl (by omega)) (decide_eq_true g_1a) g_1e (decide_eq_true g_1d) g_1b g_1c dX5_init_7 (tt_nmM hf (fun m_2 hf => ?_))
  refine tt_putFP (pc := 10) E hin2 lfX5_11 (fun _ _ _ h => by cases h; rfl) rfl (ik_up h0 (by omega)) (ik_up (ik_new (decide_eq_true g_1a) rfl) (by omega)) dX5_init_10 (tt_nmM hf (fun m_3 hf => ?_))
  refine tt_aload_n (pc := 13) (i := 0) (j := 0) E dX5_init_13 rfl rfl ?_
  refine tt_iconst (pc := 14) (v := 0) E dX5_init_14 ic_0 ?_
  refine tt_putI (pc := 15) E lfX5_17 rfl (ik_up h0 (by omega)) dX5_init_15 (tt_nmM hf (fun m_4 hf => ?_))
  refine tt_iconst (pc := 18) (v := 0) E dX5_init_18 ic_0 ?_
  refine tt_istore_n (pc := 19) (i := 1) (lv' := [(1, .int 0), (0, .ref (B + o0))]) E dX5_init_19 rfl (Nat.le_of_ble_eq_true rfl) rfl ?_
  refine tt_sub [1, 0] (lv' := [(0, .ref (B + o0)), (1, .int 0)]) rfl ?_
  exact tX5_init_20 E hr hlk hin2 FU 0 _ _ _ m_4 (ik_up h0 (by omega)) (by omega) hf
set_option maxHeartbeats 4000000 in
theorem tX6_init_37 {p : Program} {l : Launch} {e : Env} {s : State} {m : MethodId} {args : Array Value} {below : List Frame} {meth : Method} {c : Code} {B : Nat} {D : va_G} {cT : Nat → ClassId} {adK adV : Nat → Nat} {res : Mem} {n' : Nat} (E : EE p s m args c cX6_init 2 RX6 B D cT (XW B adK adV)) (hr : meth.sig.returnType = none) (hlk : meth.locks = false) (hin2 : meth.name = "<init>") {o0 : Nat} : ∀ (fu : Nat) (v1 : Int32) (n kc ks : Nat) (μ : Mem) (h0 : isK n o0 5) (hz : s.heap.size + kc = B + n), zl5 (gX6_init_37 o0) fu v1 n kc ks μ = some (res, n', 62, 422) → TT p l e rmX6_init s m args below meth c (QC B D cT n' 62 422 below args s res) 2 B D cT n kc ks μ 37 [(0, .ref (B + o0)), (1, .int v1)] [] := by
  intro fu
  induction fu with
  | zero => intro v1 n kc ks μ h0 hz hf; exact absurd hf (fun h => by cases h)
  | succ fu ih =>
    intro v1 n kc ks μ h0 hz hf
    have hf : gX6_init_37 o0 (zl5 (gX6_init_37 o0) fu) v1 n kc ks μ = some (res, n', 62, 422) := hf
    unfold gX6_init_37 at hf
    have hn0 : 0 < n := Nat.lt_of_le_of_lt (Nat.zero_le _) h0.1
    have rc_0 : rmX1_init.cells = 0 := rfl
    refine tt_iload_n (pc := 37) (i := 1) (j := 1) E dX6_init_37 rfl rfl ?_
    refine tt_aload_n (pc := 38) (i := 0) (j := 0) E dX6_init_38 rfl rfl ?_
    obtain ⟨q_1, hq_2, hf⟩ := bd_some hf
    refine tt_getP (pc := 39) (t := 13) E lfX6_13 rfl rfl (ik_up h0 (by omega)) dX6_init_39 hq_2 (fun kq_3 => ?_)
    refine tt_alen (pc := 42) (v := Int32.ofNat (Ln q_1)) E (k := 13) ⟨(Nat.le_of_ble_eq_true rfl), (Nat.le_of_ble_eq_true rfl)⟩ (ik_up kq_3 (by omega)) rfl dX6_init_42 ?_
    refine tt_icmp_ge (pc := 43) (tgt := 65) E dX6_init_43 rfl (fun c_18 => ?_) (fun c_18 => ?_)
    · have hf := ip c_18 hf
      exact tt_cret (pc := 65) E hr hlk dX6_init_65 hf
    · have hf := ine c_18 hf
      refine tt_aload_n (pc := 46) (i := 0) (j := 0) E dX6_init_46 rfl rfl ?_
      obtain ⟨q_4, hq_5, hf⟩ := bd_some hf
      refine tt_getP (pc := 47) (t := 13) E lfX6_13 rfl rfl (ik_up h0 (by omega)) dX6_init_47 hq_5 (fun kq_6 => ?_)
      refine tt_iload_n (pc := 50) (i := 1) (j := 1) E dX6_init_50 rfl rfl ?_
      obtain ⟨g_7, hf⟩ := gd_some hf
      obtain ⟨g_7a, g_7b, g_7c⟩ := of_decide_eq_true g_7
      refine tt_new (pc := 51) E lnX6_11 (by omega) (Or.inl (by omega)) (decide_eq_true g_7a) g_7b g_7c dX6_init_51 (tt_nmM hf (fun m_8 hf => ?_))
      refine tt_dup (pc := 54) E dX6_init_54 rfl ?_
      obtain ⟨r_9, hr_10, hf⟩ := bd_some hf
      obtain ⟨g_13, hf⟩ := gd_some hf
      obtain ⟨g_13a, g_13b, g_13c⟩ := of_decide_eq_true g_13
      obtain ⟨m_11, r_14⟩ := r_9
      have g_13d : r_14 = (n + 1, 0, 0) := g_13a
      subst g_13d
      refine tt_cCN (host := "TurnWheel") (pc := 55) E (by decide) mtX1_init (cX1_init_ok (ik_up (ik_new (decide_eq_true g_7a) rfl) (by omega)) hr_10) (by omega) (Or.inl (by omega)) rfl rfl (Nat.le_of_ble_eq_true rfl) ⟨(Nat.le_of_ble_eq_true rfl), (Nat.le_of_ble_eq_true rfl)⟩ ⟨g_13b, g_13c⟩ dX6_init_55 (tt_nmM (X := m_11) hf (fun m_12 hf => ?_))
      obtain ⟨g_16, hf⟩ := gd_some hf
      refine tt_aast13 (pc := 58) E (ik_up kq_6 (by omega)) g_16 (ik_up (ik_new (decide_eq_true g_7a) rfl) (by omega)) dX6_init_58 (tt_nmM hf (fun m_15 hf => ?_))
      obtain ⟨v_17, ev_17, hf⟩ := nm_ex hf
      refine tt_iinc (pc := 59) (i := 1) (j := 1) (lv' := [(1, .int v_17), (0, .ref (B + o0))]) E dX6_init_59 rfl (ev_17).symm (Nat.le_of_ble_eq_true rfl) rfl ?_
      refine tt_goto (pc := 62) (tgt := 37) E dX6_init_62 rfl ?_
      refine tt_sub [1, 0] (lv' := [(0, .ref (B + o0)), (1, .int v_17)]) rfl ?_
      exact ih v_17 _ _ _ m_15 (ik_up h0 (by omega)) (by omega) hf
set_option maxHeartbeats 4000000 in
theorem cX6_init_ok {l : Launch} {B : Nat} {D : va_G} {cT : Nat → ClassId} {n n' : Nat} {adK adV : Nat → Nat} {o0 : Nat} {μ res : Mem} (h0 : isK n o0 5) (hf : fX6_init o0 n 0 0 μ = some (res, n', 62, 422)) : MC l yX6_init cX6_init 2 rmX6_init B D cT (XW B adK adV) n [.ref (B + o0)] μ res n' := by
  refine tt_ofC mtX6_init (Nat.le_of_ble_eq_true rfl) rfl ?_
  intro p e s m below meth c E0 hr hlk hin2 hz
  have E : EE p s m _ c cX6_init 2 RX6 B D cT (XW B adK adV) := E0
  unfold fX6_init at hf
  have hn0 : 0 < n := Nat.lt_of_le_of_lt (Nat.zero_le _) h0.1
  have rc_0 : rmX1_init.cells = 0 := rfl
  refine tt_aload_n (pc := 0) (i := 0) (j := 0) E dX6_init_0 rfl rfl ?_
  refine tt_objInit (pc := 1) E (gw_mem (mt1 (at_l 86 rfl)) rfl) (Nat.le_of_ble_eq_true rfl) (Nat.le_of_ble_eq_true rfl) dX6_init_1 ?_
  refine tt_aload_n (pc := 4) (i := 0) (j := 0) E dX6_init_4 rfl rfl ?_
  refine tt_bipush (pc := 5) (v := 60) E dX6_init_5 bc_60 ?_
  obtain ⟨g_1, hf⟩ := gd_some hf
  obtain ⟨g_1a, g_1e, g_1d, g_1b, g_1c⟩ := of_decide_eq_true g_1
  refine tt_anewa13 (pc := 7) E (gw_mem (mt1 (at_l 87 rfl)) rfl) (by decide) (by omega) (Or.inl (by omega)) (decide_eq_true g_1a) g_1e (decide_eq_true g_1d) g_1b g_1c dX6_init_7 (tt_nmM hf (fun m_2 hf => ?_))
  refine tt_putFP (pc := 10) E hin2 lfX6_13 (fun _ _ _ h => by cases h; rfl) rfl (ik_up h0 (by omega)) (ik_up (ik_new (decide_eq_true g_1a) rfl) (by omega)) dX6_init_10 (tt_nmM hf (fun m_3 hf => ?_))
  refine tt_aload_n (pc := 13) (i := 0) (j := 0) E dX6_init_13 rfl rfl ?_
  refine tt_iconst (pc := 14) (v := 2) E dX6_init_14 ic_2 ?_
  obtain ⟨g_4, hf⟩ := gd_some hf
  obtain ⟨g_4a, g_4e, g_4d, g_4b, g_4c⟩ := of_decide_eq_true g_4
  refine tt_newa11 (pc := 15) E ac_int (by omega) (Or.inl (by omega)) (decide_eq_true g_4a) g_4e (decide_eq_true g_4d) g_4b g_4c dX6_init_15 (tt_nmM hf (fun m_5 hf => ?_))
  refine tt_putFP (pc := 17) E hin2 lfX6_17 (fun _ _ _ h => by cases h; rfl) rfl (ik_up h0 (by omega)) (ik_up (ik_new (decide_eq_true g_4a) rfl) (by omega)) dX6_init_17 (tt_nmM hf (fun m_6 hf => ?_))
  refine tt_aload_n (pc := 20) (i := 0) (j := 0) E dX6_init_20 rfl rfl ?_
  refine tt_iconst (pc := 21) (v := 0) E dX6_init_21 ic_0 ?_
  refine tt_putI (pc := 22) E lfX6_21 rfl (ik_up h0 (by omega)) dX6_init_22 (tt_nmM hf (fun m_7 hf => ?_))
  refine tt_aload_n (pc := 25) (i := 0) (j := 0) E dX6_init_25 rfl rfl ?_
  refine tt_iconst (pc := 26) (v := 0) E dX6_init_26 ic_0 ?_
  refine tt_putI (pc := 27) E lfX6_25 rfl (ik_up h0 (by omega)) dX6_init_27 (tt_nmM hf (fun m_8 hf => ?_))
  refine tt_aload_n (pc := 30) (i := 0) (j := 0) E dX6_init_30 rfl rfl ?_
  refine tt_iconst (pc := 31) (v := 0) E dX6_init_31 ic_0 ?_
  refine tt_putI (pc := 32) E lfX6_28 rfl (ik_up h0 (by omega)) dX6_init_32 (tt_nmM hf (fun m_9 hf => ?_))
  refine tt_iconst (pc := 35) (v := 0) E dX6_init_35 ic_0 ?_
  refine tt_istore_n (pc := 36) (i := 1) (lv' := [(1, .int 0), (0, .ref (B + o0))]) E dX6_init_36 rfl (Nat.le_of_ble_eq_true rfl) rfl ?_
  refine tt_sub [1, 0] (lv' := [(0, .ref (B + o0)), (1, .int 0)]) rfl ?_
  exact tX6_init_37 E hr hlk hin2 FU 0 _ _ _ m_9 (ik_up h0 (by omega)) (by omega) hf
set_option maxHeartbeats 4000000 in
theorem cX7_init_ok {l : Launch} {B : Nat} {D : va_G} {cT : Nat → ClassId} {n n' : Nat} {adK adV : Nat → Nat} {o0 : Nat} {μ res : Mem} (h0 : isK n o0 6) (hf : fX7_init o0 n 0 0 μ = some (res, n', 1, 176)) : MC l yX7_init cX7_init 1 rmX7_init B D cT (XW B adK adV) n [.ref (B + o0)] μ res n' := by
  refine tt_ofC mtX7_init (Nat.le_of_ble_eq_true rfl) rfl ?_
  intro p e s m below meth c E0 hr hlk hin2 hz
  have E : EE p s m _ c cX7_init 1 RX7 B D cT (XW B adK adV) := E0
  unfold fX7_init at hf
  have hn0 : 0 < n := Nat.lt_of_le_of_lt (Nat.zero_le _) h0.1
  refine tt_aload_n (pc := 0) (i := 0) (j := 0) E dX7_init_0 rfl rfl ?_
  refine tt_objInit (pc := 1) E (gw_mem (mt2 (at_l 82 rfl)) rfl) (Nat.le_of_ble_eq_true rfl) (Nat.le_of_ble_eq_true rfl) dX7_init_1 ?_
  refine tt_aload_n (pc := 4) (i := 0) (j := 0) E dX7_init_4 rfl rfl ?_
  refine tt_sipush (pc := 5) (v := 176) E dX7_init_5 sc_176 ?_
  obtain ⟨g_1, hf⟩ := gd_some hf
  obtain ⟨g_1a, g_1e, g_1d, g_1b, g_1c⟩ := of_decide_eq_true g_1
  refine tt_newa10 (pc := 8) E ac_byte (by omega) (Or.inl (by omega)) (decide_eq_true g_1a) g_1e (decide_eq_true g_1d) g_1b g_1c dX7_init_8 (tt_nmM hf (fun m_2 hf => ?_))
  refine tt_putFP (pc := 10) E hin2 lfX7_9 (fun _ _ _ h => by cases h; rfl) rfl (ik_up h0 (by omega)) (ik_up (ik_new (decide_eq_true g_1a) rfl) (by omega)) dX7_init_10 (tt_nmM hf (fun m_3 hf => ?_))
  refine tt_aload_n (pc := 13) (i := 0) (j := 0) E dX7_init_13 rfl rfl ?_
  refine tt_iconst (pc := 14) (v := 0) E dX7_init_14 ic_0 ?_
  refine tt_putI (pc := 15) E lfX7_15 rfl (ik_up h0 (by omega)) dX7_init_15 (tt_nmM hf (fun m_4 hf => ?_))
  exact tt_cret (pc := 18) E hr hlk dX7_init_18 hf
set_option maxHeartbeats 4000000 in
theorem cX9_init_ok {l : Launch} {B : Nat} {D : va_G} {cT : Nat → ClassId} {n n' : Nat} {adK adV : Nat → Nat} {o0 : Nat} {μ res : Mem} (h0 : isK n o0 7) (hf : fX9_init o0 n 0 0 μ = some (res, n', 1, 600)) : MC l yX9_init cX9_init 1 rmX9_init B D cT (XW B adK adV) n [.ref (B + o0)] μ res n' := by
  refine tt_ofC mtX9_init (Nat.le_of_ble_eq_true rfl) rfl ?_
  intro p e s m below meth c E0 hr hlk hin2 hz
  have E : EE p s m _ c cX9_init 1 RX9 B D cT (XW B adK adV) := E0
  unfold fX9_init at hf
  have hn0 : 0 < n := Nat.lt_of_le_of_lt (Nat.zero_le _) h0.1
  refine tt_aload_n (pc := 0) (i := 0) (j := 0) E dX9_init_0 rfl rfl ?_
  refine tt_objInit (pc := 1) E (gw_mem (mt1 (at_l 38 rfl)) rfl) (Nat.le_of_ble_eq_true rfl) (Nat.le_of_ble_eq_true rfl) dX9_init_1 ?_
  refine tt_aload_n (pc := 4) (i := 0) (j := 0) E dX9_init_4 rfl rfl ?_
  refine tt_sipush (pc := 5) (v := 600) E dX9_init_5 sc_600 ?_
  obtain ⟨g_1, hf⟩ := gd_some hf
  obtain ⟨g_1a, g_1e, g_1d, g_1b, g_1c⟩ := of_decide_eq_true g_1
  refine tt_newa10 (pc := 8) E ac_byte (by omega) (Or.inl (by omega)) (decide_eq_true g_1a) g_1e (decide_eq_true g_1d) g_1b g_1c dX9_init_8 (tt_nmM hf (fun m_2 hf => ?_))
  refine tt_putFP (pc := 10) E hin2 lfX9_9 (fun _ _ _ h => by cases h; rfl) rfl (ik_up h0 (by omega)) (ik_up (ik_new (decide_eq_true g_1a) rfl) (by omega)) dX9_init_10 (tt_nmM hf (fun m_3 hf => ?_))
  refine tt_aload_n (pc := 13) (i := 0) (j := 0) E dX9_init_13 rfl rfl ?_
  refine tt_iconst (pc := 14) (v := 0) E dX9_init_14 ic_0 ?_
  refine tt_putI (pc := 15) E lfX9_15 rfl (ik_up h0 (by omega)) dX9_init_15 (tt_nmM hf (fun m_4 hf => ?_))
  refine tt_aload_n (pc := 18) (i := 0) (j := 0) E dX9_init_18 rfl rfl ?_
  refine tt_iconst (pc := 19) (v := 0) E dX9_init_19 ic_0 ?_
  refine tt_putI (pc := 20) E lfX9_19 rfl (ik_up h0 (by omega)) dX9_init_20 (tt_nmM hf (fun m_5 hf => ?_))
  refine tt_aload_n (pc := 23) (i := 0) (j := 0) E dX9_init_23 rfl rfl ?_
  refine tt_iconst (pc := 24) (v := (-1)) E dX9_init_24 ic_m1 ?_
  refine tt_putI (pc := 25) E lfX9_22 rfl (ik_up h0 (by omega)) dX9_init_25 (tt_nmM hf (fun m_6 hf => ?_))
  refine tt_aload_n (pc := 28) (i := 0) (j := 0) E dX9_init_28 rfl rfl ?_
  refine tt_iconst (pc := 29) (v := 0) E dX9_init_29 ic_0 ?_
  refine tt_putI (pc := 30) E lfX9_25 rfl (ik_up h0 (by omega)) dX9_init_30 (tt_nmM hf (fun m_7 hf => ?_))
  refine tt_aload_n (pc := 33) (i := 0) (j := 0) E dX9_init_33 rfl rfl ?_
  refine tt_iconst (pc := 34) (v := 0) E dX9_init_34 ic_0 ?_
  refine tt_putI (pc := 35) E lfX9_28 rfl (ik_up h0 (by omega)) dX9_init_35 (tt_nmM hf (fun m_8 hf => ?_))
  refine tt_aload_n (pc := 38) (i := 0) (j := 0) E dX9_init_38 rfl rfl ?_
  refine tt_iconst (pc := 39) (v := 0) E dX9_init_39 ic_0 ?_
  refine tt_putI (pc := 40) E lfX9_31 rfl (ik_up h0 (by omega)) dX9_init_40 (tt_nmM hf (fun m_9 hf => ?_))
  refine tt_aload_n (pc := 43) (i := 0) (j := 0) E dX9_init_43 rfl rfl ?_
  refine tt_iconst (pc := 44) (v := 0) E dX9_init_44 ic_0 ?_
  refine tt_putI (pc := 45) E lfX9_34 rfl (ik_up h0 (by omega)) dX9_init_45 (tt_nmM hf (fun m_10 hf => ?_))
  refine tt_aload_n (pc := 48) (i := 0) (j := 0) E dX9_init_48 rfl rfl ?_
  refine tt_lconst (pc := 49) (v := 0) E dX9_init_49 lc_0 ?_
  refine tt_putJ (pc := 50) E lfX9_37 rfl (ik_up h0 (by omega)) dX9_init_50 (tt_nmM hf (fun m_11 hf => ?_))
  refine tt_aload_n (pc := 53) (i := 0) (j := 0) E dX9_init_53 rfl rfl ?_
  refine tt_iconst (pc := 54) (v := 0) E dX9_init_54 ic_0 ?_
  refine tt_putI (pc := 55) E lfX9_41 rfl (ik_up h0 (by omega)) dX9_init_55 (tt_nmM hf (fun m_12 hf => ?_))
  refine tt_aload_n (pc := 58) (i := 0) (j := 0) E dX9_init_58 rfl rfl ?_
  refine tt_iconst (pc := 59) (v := 0) E dX9_init_59 ic_0 ?_
  refine tt_putI (pc := 60) E lfX9_44 rfl (ik_up h0 (by omega)) dX9_init_60 (tt_nmM hf (fun m_13 hf => ?_))
  exact tt_cret (pc := 63) E hr hlk dX9_init_63 hf
set_option maxHeartbeats 4000000 in
theorem cX11_init_ok {l : Launch} {B : Nat} {D : va_G} {cT : Nat → ClassId} {n n' : Nat} {adK adV : Nat → Nat} {o0 : Nat} {μ res : Mem} (h0 : isK n o0 8) (hf : fX11_init o0 n 0 0 μ = some (res, n', 361, 5496)) : MC l yX11_init cX11_init 1 rmX11_init B D cT (XW B adK adV) n [.ref (B + o0)] μ res n' := by
  refine tt_ofC mtX11_init (Nat.le_of_ble_eq_true rfl) rfl ?_
  intro p e s m below meth c E0 hr hlk hin2 hz
  have E : EE p s m _ c cX11_init 1 RX11 B D cT (XW B adK adV) := E0
  unfold fX11_init at hf
  have hn0 : 0 < n := Nat.lt_of_le_of_lt (Nat.zero_le _) h0.1
  have rc_0 : rmX9_init.cells = 1 := rfl
  have rc_1 : rmX6_init.cells = 62 := rfl
  have rc_2 : rmX2_init.cells = 28 := rfl
  have rc_3 : rmX4_init.cells = 30 := rfl
  have rc_4 : rmX5_init.cells = 175 := rfl
  have rc_5 : rmX7_init.cells = 1 := rfl
  refine tt_aload_n (pc := 0) (i := 0) (j := 0) E dX11_init_0 rfl rfl ?_
  refine tt_objInit (pc := 1) E (gw_mem (mt1 (at_l 30 rfl)) rfl) (Nat.le_of_ble_eq_true rfl) (Nat.le_of_ble_eq_true rfl) dX11_init_1 ?_
  refine tt_aload_n (pc := 4) (i := 0) (j := 0) E dX11_init_4 rfl rfl ?_
  obtain ⟨g_1, hf⟩ := gd_some hf
  obtain ⟨g_1a, g_1b, g_1c⟩ := of_decide_eq_true g_1
  refine tt_new (pc := 5) E lnX11_7 (by omega) (Or.inl (by omega)) (decide_eq_true g_1a) g_1b g_1c dX11_init_5 (tt_nmM hf (fun m_2 hf => ?_))
  refine tt_dup (pc := 8) E dX11_init_8 rfl ?_
  obtain ⟨r_3, hr_4, hf⟩ := bd_some hf
  obtain ⟨g_7, hf⟩ := gd_some hf
  obtain ⟨g_7a, g_7b, g_7c⟩ := of_decide_eq_true g_7
  obtain ⟨m_5, r_8⟩ := r_3
  have g_7d : r_8 = (n + 2, 1, 600) := g_7a
  subst g_7d
  refine tt_cCN (host := "TurnWheel") (pc := 9) E (by decide) mtX9_init (cX9_init_ok (ik_up (ik_new (decide_eq_true g_1a) rfl) (by omega)) hr_4) (by omega) (Or.inl (by omega)) rfl rfl (Nat.le_of_ble_eq_true rfl) ⟨(Nat.le_of_ble_eq_true rfl), (Nat.le_of_ble_eq_true rfl)⟩ ⟨g_7b, g_7c⟩ dX11_init_9 (tt_nmM (X := m_5) hf (fun m_6 hf => ?_))
  refine tt_putFP (pc := 12) E hin2 lfX11_10 (fun _ _ _ h => by cases h; rfl) rfl (ik_up h0 (by omega)) (ik_up (ik_new (decide_eq_true g_1a) rfl) (by omega)) dX11_init_12 (tt_nmM hf (fun m_9 hf => ?_))
  refine tt_aload_n (pc := 15) (i := 0) (j := 0) E dX11_init_15 rfl rfl ?_
  obtain ⟨g_10, hf⟩ := gd_some hf
  obtain ⟨g_10a, g_10b, g_10c⟩ := of_decide_eq_true g_10
  refine tt_new (pc := 16) E lnX11_16 (by omega) (Or.inl (by omega)) (decide_eq_true g_10a) g_10b g_10c dX11_init_16 (tt_nmM hf (fun m_11 hf => ?_))
  refine tt_dup (pc := 19) E dX11_init_19 rfl ?_
  obtain ⟨r_12, hr_13, hf⟩ := bd_some hf
  obtain ⟨g_16, hf⟩ := gd_some hf
  obtain ⟨g_16a, g_16b, g_16c⟩ := of_decide_eq_true g_16
  obtain ⟨m_14, r_17⟩ := r_12
  have g_16d : r_17 = (n + 65, 62, 422) := g_16a
  subst g_16d
  refine tt_cC (pc := 20) E (gw_mem (mt1 (at_l 83 rfl)) rfl) mtX6_init (cX6_init_ok (ik_up (ik_new (decide_eq_true g_10a) rfl) (by omega)) hr_13) (by omega) (Or.inl (by omega)) rfl rfl (Nat.le_of_ble_eq_true rfl) ⟨(Nat.le_of_ble_eq_true rfl), (Nat.le_of_ble_eq_true rfl)⟩ ⟨g_16b, g_16c⟩ dX11_init_20 (tt_nmM (X := m_14) hf (fun m_15 hf => ?_))
  refine tt_putFP (pc := 23) E hin2 lfX11_19 (fun _ _ _ h => by cases h; rfl) rfl (ik_up h0 (by omega)) (ik_up (ik_new (decide_eq_true g_10a) rfl) (by omega)) dX11_init_23 (tt_nmM hf (fun m_18 hf => ?_))
  refine tt_aload_n (pc := 26) (i := 0) (j := 0) E dX11_init_26 rfl rfl ?_
  obtain ⟨g_19, hf⟩ := gd_some hf
  obtain ⟨g_19a, g_19b, g_19c⟩ := of_decide_eq_true g_19
  refine tt_new (pc := 27) E lnX11_23 (by omega) (Or.inl (by omega)) (decide_eq_true g_19a) g_19b g_19c dX11_init_27 (tt_nmM hf (fun m_20 hf => ?_))
  refine tt_dup (pc := 30) E dX11_init_30 rfl ?_
  obtain ⟨r_21, hr_22, hf⟩ := bd_some hf
  obtain ⟨g_25, hf⟩ := gd_some hf
  obtain ⟨g_25a, g_25b, g_25c⟩ := of_decide_eq_true g_25
  obtain ⟨m_23, r_26⟩ := r_21
  have g_25d : r_26 = (n + 94, 28, 260) := g_25a
  subst g_25d
  refine tt_cC (pc := 31) E (gw_mem (mt1 (at_l 138 rfl)) rfl) mtX2_init (cX2_init_ok (ik_up (ik_new (decide_eq_true g_19a) rfl) (by omega)) hr_22) (by omega) (Or.inl (by omega)) rfl rfl (Nat.le_of_ble_eq_true rfl) ⟨(Nat.le_of_ble_eq_true rfl), (Nat.le_of_ble_eq_true rfl)⟩ ⟨g_25b, g_25c⟩ dX11_init_31 (tt_nmM (X := m_23) hf (fun m_24 hf => ?_))
  refine tt_putFP (pc := 34) E hin2 lfX11_26 (fun _ _ _ h => by cases h; rfl) rfl (ik_up h0 (by omega)) (ik_up (ik_new (decide_eq_true g_19a) rfl) (by omega)) dX11_init_34 (tt_nmM hf (fun m_27 hf => ?_))
  refine tt_aload_n (pc := 37) (i := 0) (j := 0) E dX11_init_37 rfl rfl ?_
  obtain ⟨g_28, hf⟩ := gd_some hf
  obtain ⟨g_28a, g_28b, g_28c⟩ := of_decide_eq_true g_28
  refine tt_new (pc := 38) E lnX11_23 (by omega) (Or.inl (by omega)) (decide_eq_true g_28a) g_28b g_28c dX11_init_38 (tt_nmM hf (fun m_29 hf => ?_))
  refine tt_dup (pc := 41) E dX11_init_41 rfl ?_
  obtain ⟨r_30, hr_31, hf⟩ := bd_some hf
  obtain ⟨g_34, hf⟩ := gd_some hf
  obtain ⟨g_34a, g_34b, g_34c⟩ := of_decide_eq_true g_34
  obtain ⟨m_32, r_35⟩ := r_30
  have g_34d : r_35 = (n + 123, 28, 260) := g_34a
  subst g_34d
  refine tt_cC (pc := 42) E (gw_mem (mt1 (at_l 138 rfl)) rfl) mtX2_init (cX2_init_ok (ik_up (ik_new (decide_eq_true g_28a) rfl) (by omega)) hr_31) (by omega) (Or.inl (by omega)) rfl rfl (Nat.le_of_ble_eq_true rfl) ⟨(Nat.le_of_ble_eq_true rfl), (Nat.le_of_ble_eq_true rfl)⟩ ⟨g_34b, g_34c⟩ dX11_init_42 (tt_nmM (X := m_32) hf (fun m_33 hf => ?_))
  refine tt_putFP (pc := 45) E hin2 lfX11_30 (fun _ _ _ h => by cases h; rfl) rfl (ik_up h0 (by omega)) (ik_up (ik_new (decide_eq_true g_28a) rfl) (by omega)) dX11_init_45 (tt_nmM hf (fun m_36 hf => ?_))
  refine tt_aload_n (pc := 48) (i := 0) (j := 0) E dX11_init_48 rfl rfl ?_
  obtain ⟨g_37, hf⟩ := gd_some hf
  obtain ⟨g_37a, g_37b, g_37c⟩ := of_decide_eq_true g_37
  refine tt_new (pc := 49) E lnX11_23 (by omega) (Or.inl (by omega)) (decide_eq_true g_37a) g_37b g_37c dX11_init_49 (tt_nmM hf (fun m_38 hf => ?_))
  refine tt_dup (pc := 52) E dX11_init_52 rfl ?_
  obtain ⟨r_39, hr_40, hf⟩ := bd_some hf
  obtain ⟨g_43, hf⟩ := gd_some hf
  obtain ⟨g_43a, g_43b, g_43c⟩ := of_decide_eq_true g_43
  obtain ⟨m_41, r_44⟩ := r_39
  have g_43d : r_44 = (n + 152, 28, 260) := g_43a
  subst g_43d
  refine tt_cC (pc := 53) E (gw_mem (mt1 (at_l 138 rfl)) rfl) mtX2_init (cX2_init_ok (ik_up (ik_new (decide_eq_true g_37a) rfl) (by omega)) hr_40) (by omega) (Or.inl (by omega)) rfl rfl (Nat.le_of_ble_eq_true rfl) ⟨(Nat.le_of_ble_eq_true rfl), (Nat.le_of_ble_eq_true rfl)⟩ ⟨g_43b, g_43c⟩ dX11_init_53 (tt_nmM (X := m_41) hf (fun m_42 hf => ?_))
  refine tt_putFP (pc := 56) E hin2 lfX11_33 (fun _ _ _ h => by cases h; rfl) rfl (ik_up h0 (by omega)) (ik_up (ik_new (decide_eq_true g_37a) rfl) (by omega)) dX11_init_56 (tt_nmM hf (fun m_45 hf => ?_))
  refine tt_aload_n (pc := 59) (i := 0) (j := 0) E dX11_init_59 rfl rfl ?_
  obtain ⟨g_46, hf⟩ := gd_some hf
  obtain ⟨g_46a, g_46b, g_46c⟩ := of_decide_eq_true g_46
  refine tt_new (pc := 60) E lnX11_36 (by omega) (Or.inl (by omega)) (decide_eq_true g_46a) g_46b g_46c dX11_init_60 (tt_nmM hf (fun m_47 hf => ?_))
  refine tt_dup (pc := 63) E dX11_init_63 rfl ?_
  obtain ⟨r_48, hr_49, hf⟩ := bd_some hf
  obtain ⟨g_52, hf⟩ := gd_some hf
  obtain ⟨g_52a, g_52b, g_52c⟩ := of_decide_eq_true g_52
  obtain ⟨m_50, r_53⟩ := r_48
  have g_52d : r_53 = (n + 183, 30, 1874) := g_52a
  subst g_52d
  refine tt_cCN (host := "TurnWheel") (pc := 64) E (by decide) mtX4_init (cX4_init_ok (ik_up (ik_new (decide_eq_true g_46a) rfl) (by omega)) hr_49) (by omega) (Or.inl (by omega)) rfl rfl (Nat.le_of_ble_eq_true rfl) ⟨(Nat.le_of_ble_eq_true rfl), (Nat.le_of_ble_eq_true rfl)⟩ ⟨g_52b, g_52c⟩ dX11_init_64 (tt_nmM (X := m_50) hf (fun m_51 hf => ?_))
  refine tt_putFP (pc := 67) E hin2 lfX11_39 (fun _ _ _ h => by cases h; rfl) rfl (ik_up h0 (by omega)) (ik_up (ik_new (decide_eq_true g_46a) rfl) (by omega)) dX11_init_67 (tt_nmM hf (fun m_54 hf => ?_))
  refine tt_aload_n (pc := 70) (i := 0) (j := 0) E dX11_init_70 rfl rfl ?_
  obtain ⟨g_55, hf⟩ := gd_some hf
  obtain ⟨g_55a, g_55b, g_55c⟩ := of_decide_eq_true g_55
  refine tt_new (pc := 71) E lnX11_43 (by omega) (Or.inl (by omega)) (decide_eq_true g_55a) g_55b g_55c dX11_init_71 (tt_nmM hf (fun m_56 hf => ?_))
  refine tt_dup (pc := 74) E dX11_init_74 rfl ?_
  obtain ⟨r_57, hr_58, hf⟩ := bd_some hf
  obtain ⟨g_61, hf⟩ := gd_some hf
  obtain ⟨g_61a, g_61b, g_61c⟩ := of_decide_eq_true g_61
  obtain ⟨m_59, r_62⟩ := r_57
  have g_61d : r_62 = (n + 359, 175, 1602) := g_61a
  subst g_61d
  refine tt_cC (pc := 75) E (gw_mem (mt2 (at_l 62 rfl)) rfl) mtX5_init (cX5_init_ok (ik_up (ik_new (decide_eq_true g_55a) rfl) (by omega)) hr_58) (by omega) (Or.inl (by omega)) rfl rfl (Nat.le_of_ble_eq_true rfl) ⟨(Nat.le_of_ble_eq_true rfl), (Nat.le_of_ble_eq_true rfl)⟩ ⟨g_61b, g_61c⟩ dX11_init_75 (tt_nmM (X := m_59) hf (fun m_60 hf => ?_))
  refine tt_putFP (pc := 78) E hin2 lfX11_46 (fun _ _ _ h => by cases h; rfl) rfl (ik_up h0 (by omega)) (ik_up (ik_new (decide_eq_true g_55a) rfl) (by omega)) dX11_init_78 (tt_nmM hf (fun m_63 hf => ?_))
  refine tt_aload_n (pc := 81) (i := 0) (j := 0) E dX11_init_81 rfl rfl ?_
  obtain ⟨g_64, hf⟩ := gd_some hf
  obtain ⟨g_64a, g_64b, g_64c⟩ := of_decide_eq_true g_64
  refine tt_new (pc := 82) E lnX11_50 (by omega) (Or.inl (by omega)) (decide_eq_true g_64a) g_64b g_64c dX11_init_82 (tt_nmM hf (fun m_65 hf => ?_))
  refine tt_dup (pc := 85) E dX11_init_85 rfl ?_
  obtain ⟨r_66, hr_67, hf⟩ := bd_some hf
  obtain ⟨g_70, hf⟩ := gd_some hf
  obtain ⟨g_70a, g_70b, g_70c⟩ := of_decide_eq_true g_70
  obtain ⟨m_68, r_71⟩ := r_66
  have g_70d : r_71 = (n + 361, 1, 176) := g_70a
  subst g_70d
  refine tt_cCN (host := "TurnWheel") (pc := 86) E (by decide) mtX7_init (cX7_init_ok (ik_up (ik_new (decide_eq_true g_64a) rfl) (by omega)) hr_67) (by omega) (Or.inl (by omega)) rfl rfl (Nat.le_of_ble_eq_true rfl) ⟨(Nat.le_of_ble_eq_true rfl), (Nat.le_of_ble_eq_true rfl)⟩ ⟨g_70b, g_70c⟩ dX11_init_86 (tt_nmM (X := m_68) hf (fun m_69 hf => ?_))
  refine tt_putFP (pc := 89) E hin2 lfX11_53 (fun _ _ _ h => by cases h; rfl) rfl (ik_up h0 (by omega)) (ik_up (ik_new (decide_eq_true g_64a) rfl) (by omega)) dX11_init_89 (tt_nmM hf (fun m_72 hf => ?_))
  refine tt_aload_n (pc := 92) (i := 0) (j := 0) E dX11_init_92 rfl rfl ?_
  refine tt_iconst (pc := 93) (v := 0) E dX11_init_93 ic_0 ?_
  refine tt_putZ (pc := 94) E (Or.inl rfl) lfX11_57 rfl (ik_up h0 (by omega)) dX11_init_94 (tt_nmM hf (fun m_73 hf => ?_))
  exact tt_cret (pc := 97) E hr hlk dX11_init_97 hf
set_option maxHeartbeats 4000000 in
theorem cX12_init_ok {l : Launch} {B : Nat} {D : va_G} {cT : Nat → ClassId} {n n' : Nat} {adK adV : Nat → Nat} {o0 : Nat} {μ res : Mem} (h0 : isK n o0 9) (hf : fX12_init o0 n 0 0 μ = some (res, n', 18, 12736)) : MC l yX12_init cX12_init 1 rmX12_init B D cT (XW B adK adV) n [.ref (B + o0)] μ res n' := by
  refine tt_ofC mtX12_init (Nat.le_of_ble_eq_true rfl) rfl ?_
  intro p e s m below meth c E0 hr hlk hin2 hz
  have E : EE p s m _ c cX12_init 1 RX12 B D cT (XW B adK adV) := E0
  unfold fX12_init at hf
  have hn0 : 0 < n := Nat.lt_of_le_of_lt (Nat.zero_le _) h0.1
  have rc_0 : rmX12_clears.cells = 0 := rfl
  refine tt_aload_n (pc := 0) (i := 0) (j := 0) E dX12_init_0 rfl rfl ?_
  refine tt_objInit (pc := 1) E (gw_mem (mt6 (at_l 112 rfl)) rfl) (Nat.le_of_ble_eq_true rfl) (Nat.le_of_ble_eq_true rfl) dX12_init_1 ?_
  refine tt_aload_n (pc := 4) (i := 0) (j := 0) E dX12_init_4 rfl rfl ?_
  refine tt_sipush (pc := 5) (v := 600) E dX12_init_5 sc_600 ?_
  obtain ⟨g_1, hf⟩ := gd_some hf
  obtain ⟨g_1a, g_1e, g_1d, g_1b, g_1c⟩ := of_decide_eq_true g_1
  refine tt_newa11 (pc := 8) E ac_int (by omega) (Or.inl (by omega)) (decide_eq_true g_1a) g_1e (decide_eq_true g_1d) g_1b g_1c dX12_init_8 (tt_nmM hf (fun m_2 hf => ?_))
  refine tt_putFP (pc := 10) E hin2 lfX12_7 (fun _ _ _ h => by cases h; rfl) rfl (ik_up h0 (by omega)) (ik_up (ik_new (decide_eq_true g_1a) rfl) (by omega)) dX12_init_10 (tt_nmM hf (fun m_3 hf => ?_))
  refine tt_aload_n (pc := 13) (i := 0) (j := 0) E dX12_init_13 rfl rfl ?_
  refine tt_iconst (pc := 14) (v := (-1)) E dX12_init_14 ic_m1 ?_
  refine tt_putI (pc := 15) E lfX12_13 rfl (ik_up h0 (by omega)) dX12_init_15 (tt_nmM hf (fun m_4 hf => ?_))
  refine tt_aload_n (pc := 18) (i := 0) (j := 0) E dX12_init_18 rfl rfl ?_
  refine tt_iconst (pc := 19) (v := (-1)) E dX12_init_19 ic_m1 ?_
  refine tt_putI (pc := 20) E lfX12_17 rfl (ik_up h0 (by omega)) dX12_init_20 (tt_nmM hf (fun m_5 hf => ?_))
  refine tt_aload_n (pc := 23) (i := 0) (j := 0) E dX12_init_23 rfl rfl ?_
  refine tt_sipush (pc := 24) (v := 196) E dX12_init_24 sc_196 ?_
  obtain ⟨g_6, hf⟩ := gd_some hf
  obtain ⟨g_6a, g_6e, g_6d, g_6b, g_6c⟩ := of_decide_eq_true g_6
  refine tt_newa11 (pc := 27) E ac_int (by omega) (Or.inl (by omega)) (decide_eq_true g_6a) g_6e (decide_eq_true g_6d) g_6b g_6c dX12_init_27 (tt_nmM hf (fun m_7 hf => ?_))
  refine tt_putFP (pc := 29) E hin2 lfX12_20 (fun _ _ _ h => by cases h; rfl) rfl (ik_up h0 (by omega)) (ik_up (ik_new (decide_eq_true g_6a) rfl) (by omega)) dX12_init_29 (tt_nmM hf (fun m_8 hf => ?_))
  refine tt_aload_n (pc := 32) (i := 0) (j := 0) E dX12_init_32 rfl rfl ?_
  refine tt_sipush (pc := 33) (v := 196) E dX12_init_33 sc_196 ?_
  obtain ⟨g_9, hf⟩ := gd_some hf
  obtain ⟨g_9a, g_9e, g_9d, g_9b, g_9c⟩ := of_decide_eq_true g_9
  refine tt_newa11 (pc := 36) E ac_int (by omega) (Or.inl (by omega)) (decide_eq_true g_9a) g_9e (decide_eq_true g_9d) g_9b g_9c dX12_init_36 (tt_nmM hf (fun m_10 hf => ?_))
  refine tt_putFP (pc := 38) E hin2 lfX12_23 (fun _ _ _ h => by cases h; rfl) rfl (ik_up h0 (by omega)) (ik_up (ik_new (decide_eq_true g_9a) rfl) (by omega)) dX12_init_38 (tt_nmM hf (fun m_11 hf => ?_))
  refine tt_aload_n (pc := 41) (i := 0) (j := 0) E dX12_init_41 rfl rfl ?_
  refine tt_sipush (pc := 42) (v := 196) E dX12_init_42 sc_196 ?_
  obtain ⟨g_12, hf⟩ := gd_some hf
  obtain ⟨g_12a, g_12e, g_12d, g_12b, g_12c⟩ := of_decide_eq_true g_12
  refine tt_newa11 (pc := 45) E ac_int (by omega) (Or.inl (by omega)) (decide_eq_true g_12a) g_12e (decide_eq_true g_12d) g_12b g_12c dX12_init_45 (tt_nmM hf (fun m_13 hf => ?_))
  refine tt_putFP (pc := 47) E hin2 lfX12_26 (fun _ _ _ h => by cases h; rfl) rfl (ik_up h0 (by omega)) (ik_up (ik_new (decide_eq_true g_12a) rfl) (by omega)) dX12_init_47 (tt_nmM hf (fun m_14 hf => ?_))
  refine tt_aload_n (pc := 50) (i := 0) (j := 0) E dX12_init_50 rfl rfl ?_
  refine tt_sipush (pc := 51) (v := 196) E dX12_init_51 sc_196 ?_
  obtain ⟨g_15, hf⟩ := gd_some hf
  obtain ⟨g_15a, g_15e, g_15d, g_15b, g_15c⟩ := of_decide_eq_true g_15
  refine tt_newa11 (pc := 54) E ac_int (by omega) (Or.inl (by omega)) (decide_eq_true g_15a) g_15e (decide_eq_true g_15d) g_15b g_15c dX12_init_54 (tt_nmM hf (fun m_16 hf => ?_))
  refine tt_putFP (pc := 56) E hin2 lfX12_29 (fun _ _ _ h => by cases h; rfl) rfl (ik_up h0 (by omega)) (ik_up (ik_new (decide_eq_true g_15a) rfl) (by omega)) dX12_init_56 (tt_nmM hf (fun m_17 hf => ?_))
  refine tt_aload_n (pc := 59) (i := 0) (j := 0) E dX12_init_59 rfl rfl ?_
  refine tt_sipush (pc := 60) (v := 1176) E dX12_init_60 sc_1176 ?_
  obtain ⟨g_18, hf⟩ := gd_some hf
  obtain ⟨g_18a, g_18e, g_18d, g_18b, g_18c⟩ := of_decide_eq_true g_18
  refine tt_newa11 (pc := 63) E ac_int (by omega) (Or.inl (by omega)) (decide_eq_true g_18a) g_18e (decide_eq_true g_18d) g_18b g_18c dX12_init_63 (tt_nmM hf (fun m_19 hf => ?_))
  refine tt_putFP (pc := 65) E hin2 lfX12_32 (fun _ _ _ h => by cases h; rfl) rfl (ik_up h0 (by omega)) (ik_up (ik_new (decide_eq_true g_18a) rfl) (by omega)) dX12_init_65 (tt_nmM hf (fun m_20 hf => ?_))
  refine tt_aload_n (pc := 68) (i := 0) (j := 0) E dX12_init_68 rfl rfl ?_
  refine tt_bipush (pc := 69) (v := 8) E dX12_init_69 bc_8 ?_
  obtain ⟨g_21, hf⟩ := gd_some hf
  obtain ⟨g_21a, g_21e, g_21d, g_21b, g_21c⟩ := of_decide_eq_true g_21
  refine tt_newa12 (pc := 71) E ac_long (by omega) (Or.inl (by omega)) (decide_eq_true g_21a) g_21e (decide_eq_true g_21d) g_21b g_21c dX12_init_71 (tt_nmM hf (fun m_22 hf => ?_))
  refine tt_putFP (pc := 73) E hin2 lfX12_35 (fun _ _ _ h => by cases h; rfl) rfl (ik_up h0 (by omega)) (ik_up (ik_new (decide_eq_true g_21a) rfl) (by omega)) dX12_init_73 (tt_nmM hf (fun m_23 hf => ?_))
  refine tt_aload_n (pc := 76) (i := 0) (j := 0) E dX12_init_76 rfl rfl ?_
  refine tt_bipush (pc := 77) (v := 8) E dX12_init_77 bc_8 ?_
  obtain ⟨g_24, hf⟩ := gd_some hf
  obtain ⟨g_24a, g_24e, g_24d, g_24b, g_24c⟩ := of_decide_eq_true g_24
  refine tt_newa12 (pc := 79) E ac_long (by omega) (Or.inl (by omega)) (decide_eq_true g_24a) g_24e (decide_eq_true g_24d) g_24b g_24c dX12_init_79 (tt_nmM hf (fun m_25 hf => ?_))
  refine tt_putFP (pc := 81) E hin2 lfX12_39 (fun _ _ _ h => by cases h; rfl) rfl (ik_up h0 (by omega)) (ik_up (ik_new (decide_eq_true g_24a) rfl) (by omega)) dX12_init_81 (tt_nmM hf (fun m_26 hf => ?_))
  refine tt_aload_n (pc := 84) (i := 0) (j := 0) E dX12_init_84 rfl rfl ?_
  refine tt_bipush (pc := 85) (v := 8) E dX12_init_85 bc_8 ?_
  obtain ⟨g_27, hf⟩ := gd_some hf
  obtain ⟨g_27a, g_27e, g_27d, g_27b, g_27c⟩ := of_decide_eq_true g_27
  refine tt_newa12 (pc := 87) E ac_long (by omega) (Or.inl (by omega)) (decide_eq_true g_27a) g_27e (decide_eq_true g_27d) g_27b g_27c dX12_init_87 (tt_nmM hf (fun m_28 hf => ?_))
  refine tt_putFP (pc := 89) E hin2 lfX12_42 (fun _ _ _ h => by cases h; rfl) rfl (ik_up h0 (by omega)) (ik_up (ik_new (decide_eq_true g_27a) rfl) (by omega)) dX12_init_89 (tt_nmM hf (fun m_29 hf => ?_))
  refine tt_aload_n (pc := 92) (i := 0) (j := 0) E dX12_init_92 rfl rfl ?_
  refine tt_sipush (pc := 93) (v := 9648) E dX12_init_93 sc_9648 ?_
  obtain ⟨g_30, hf⟩ := gd_some hf
  obtain ⟨g_30a, g_30e, g_30d, g_30b, g_30c⟩ := of_decide_eq_true g_30
  refine tt_newa11 (pc := 96) E ac_int (by omega) (Or.inl (by omega)) (decide_eq_true g_30a) g_30e (decide_eq_true g_30d) g_30b g_30c dX12_init_96 (tt_nmM hf (fun m_31 hf => ?_))
  refine tt_putFP (pc := 98) E hin2 lfX12_45 (fun _ _ _ h => by cases h; rfl) rfl (ik_up h0 (by omega)) (ik_up (ik_new (decide_eq_true g_30a) rfl) (by omega)) dX12_init_98 (tt_nmM hf (fun m_32 hf => ?_))
  refine tt_aload_n (pc := 101) (i := 0) (j := 0) E dX12_init_101 rfl rfl ?_
  refine tt_bipush (pc := 102) (v := 60) E dX12_init_102 bc_60 ?_
  obtain ⟨g_33, hf⟩ := gd_some hf
  obtain ⟨g_33a, g_33e, g_33d, g_33b, g_33c⟩ := of_decide_eq_true g_33
  refine tt_newa11 (pc := 104) E ac_int (by omega) (Or.inl (by omega)) (decide_eq_true g_33a) g_33e (decide_eq_true g_33d) g_33b g_33c dX12_init_104 (tt_nmM hf (fun m_34 hf => ?_))
  refine tt_putFP (pc := 106) E hin2 lfX12_48 (fun _ _ _ h => by cases h; rfl) rfl (ik_up h0 (by omega)) (ik_up (ik_new (decide_eq_true g_33a) rfl) (by omega)) dX12_init_106 (tt_nmM hf (fun m_35 hf => ?_))
  refine tt_aload_n (pc := 109) (i := 0) (j := 0) E dX12_init_109 rfl rfl ?_
  refine tt_bipush (pc := 110) (v := 60) E dX12_init_110 bc_60 ?_
  obtain ⟨g_36, hf⟩ := gd_some hf
  obtain ⟨g_36a, g_36e, g_36d, g_36b, g_36c⟩ := of_decide_eq_true g_36
  refine tt_newa11 (pc := 112) E ac_int (by omega) (Or.inl (by omega)) (decide_eq_true g_36a) g_36e (decide_eq_true g_36d) g_36b g_36c dX12_init_112 (tt_nmM hf (fun m_37 hf => ?_))
  refine tt_putFP (pc := 114) E hin2 lfX12_51 (fun _ _ _ h => by cases h; rfl) rfl (ik_up h0 (by omega)) (ik_up (ik_new (decide_eq_true g_36a) rfl) (by omega)) dX12_init_114 (tt_nmM hf (fun m_38 hf => ?_))
  refine tt_aload_n (pc := 117) (i := 0) (j := 0) E dX12_init_117 rfl rfl ?_
  refine tt_bipush (pc := 118) (v := 60) E dX12_init_118 bc_60 ?_
  obtain ⟨g_39, hf⟩ := gd_some hf
  obtain ⟨g_39a, g_39e, g_39d, g_39b, g_39c⟩ := of_decide_eq_true g_39
  refine tt_newa11 (pc := 120) E ac_int (by omega) (Or.inl (by omega)) (decide_eq_true g_39a) g_39e (decide_eq_true g_39d) g_39b g_39c dX12_init_120 (tt_nmM hf (fun m_40 hf => ?_))
  refine tt_putFP (pc := 122) E hin2 lfX12_54 (fun _ _ _ h => by cases h; rfl) rfl (ik_up h0 (by omega)) (ik_up (ik_new (decide_eq_true g_39a) rfl) (by omega)) dX12_init_122 (tt_nmM hf (fun m_41 hf => ?_))
  refine tt_aload_n (pc := 125) (i := 0) (j := 0) E dX12_init_125 rfl rfl ?_
  refine tt_bipush (pc := 126) (v := 60) E dX12_init_126 bc_60 ?_
  obtain ⟨g_42, hf⟩ := gd_some hf
  obtain ⟨g_42a, g_42e, g_42d, g_42b, g_42c⟩ := of_decide_eq_true g_42
  refine tt_newa11 (pc := 128) E ac_int (by omega) (Or.inl (by omega)) (decide_eq_true g_42a) g_42e (decide_eq_true g_42d) g_42b g_42c dX12_init_128 (tt_nmM hf (fun m_43 hf => ?_))
  refine tt_putFP (pc := 130) E hin2 lfX12_57 (fun _ _ _ h => by cases h; rfl) rfl (ik_up h0 (by omega)) (ik_up (ik_new (decide_eq_true g_42a) rfl) (by omega)) dX12_init_130 (tt_nmM hf (fun m_44 hf => ?_))
  refine tt_aload_n (pc := 133) (i := 0) (j := 0) E dX12_init_133 rfl rfl ?_
  refine tt_bipush (pc := 134) (v := 60) E dX12_init_134 bc_60 ?_
  obtain ⟨g_45, hf⟩ := gd_some hf
  obtain ⟨g_45a, g_45e, g_45d, g_45b, g_45c⟩ := of_decide_eq_true g_45
  refine tt_newa11 (pc := 136) E ac_int (by omega) (Or.inl (by omega)) (decide_eq_true g_45a) g_45e (decide_eq_true g_45d) g_45b g_45c dX12_init_136 (tt_nmM hf (fun m_46 hf => ?_))
  refine tt_putFP (pc := 138) E hin2 lfX12_60 (fun _ _ _ h => by cases h; rfl) rfl (ik_up h0 (by omega)) (ik_up (ik_new (decide_eq_true g_45a) rfl) (by omega)) dX12_init_138 (tt_nmM hf (fun m_47 hf => ?_))
  refine tt_aload_n (pc := 141) (i := 0) (j := 0) E dX12_init_141 rfl rfl ?_
  refine tt_iconst (pc := 142) (v := 2) E dX12_init_142 ic_2 ?_
  obtain ⟨g_48, hf⟩ := gd_some hf
  obtain ⟨g_48a, g_48e, g_48d, g_48b, g_48c⟩ := of_decide_eq_true g_48
  refine tt_newa11 (pc := 143) E ac_int (by omega) (Or.inl (by omega)) (decide_eq_true g_48a) g_48e (decide_eq_true g_48d) g_48b g_48c dX12_init_143 (tt_nmM hf (fun m_49 hf => ?_))
  refine tt_putFP (pc := 145) E hin2 lfX12_63 (fun _ _ _ h => by cases h; rfl) rfl (ik_up h0 (by omega)) (ik_up (ik_new (decide_eq_true g_48a) rfl) (by omega)) dX12_init_145 (tt_nmM hf (fun m_50 hf => ?_))
  refine tt_aload_n (pc := 148) (i := 0) (j := 0) E dX12_init_148 rfl rfl ?_
  refine tt_iconst (pc := 149) (v := 2) E dX12_init_149 ic_2 ?_
  obtain ⟨g_51, hf⟩ := gd_some hf
  obtain ⟨g_51a, g_51e, g_51d, g_51b, g_51c⟩ := of_decide_eq_true g_51
  refine tt_newa11 (pc := 150) E ac_int (by omega) (Or.inl (by omega)) (decide_eq_true g_51a) g_51e (decide_eq_true g_51d) g_51b g_51c dX12_init_150 (tt_nmM hf (fun m_52 hf => ?_))
  refine tt_putFP (pc := 152) E hin2 lfX12_66 (fun _ _ _ h => by cases h; rfl) rfl (ik_up h0 (by omega)) (ik_up (ik_new (decide_eq_true g_51a) rfl) (by omega)) dX12_init_152 (tt_nmM hf (fun m_53 hf => ?_))
  refine tt_aload_n (pc := 155) (i := 0) (j := 0) E dX12_init_155 rfl rfl ?_
  refine tt_sipush (pc := 156) (v := 200) E dX12_init_156 sc_200 ?_
  obtain ⟨g_54, hf⟩ := gd_some hf
  obtain ⟨g_54a, g_54e, g_54d, g_54b, g_54c⟩ := of_decide_eq_true g_54
  refine tt_newa11 (pc := 159) E ac_int (by omega) (Or.inl (by omega)) (decide_eq_true g_54a) g_54e (decide_eq_true g_54d) g_54b g_54c dX12_init_159 (tt_nmM hf (fun m_55 hf => ?_))
  refine tt_putFP (pc := 161) E hin2 lfX12_69 (fun _ _ _ h => by cases h; rfl) rfl (ik_up h0 (by omega)) (ik_up (ik_new (decide_eq_true g_54a) rfl) (by omega)) dX12_init_161 (tt_nmM hf (fun m_56 hf => ?_))
  refine tt_aload_n (pc := 164) (i := 0) (j := 0) E dX12_init_164 rfl rfl ?_
  obtain ⟨r_57, hr_58, hf⟩ := bd_some hf
  obtain ⟨g_59, hf⟩ := gd_some hf
  obtain ⟨g_59a, g_59b⟩ := of_decide_eq_true g_59
  refine tt_cV (pc := 165) (tt_vi E lmX12_72 mtX12_clears (cX12_clears_ok (ik_up h0 (by omega)) hr_58) (ik_up h0 (by omega)) rfl rfl (Nat.le_of_ble_eq_true rfl) ⟨(Nat.le_of_ble_eq_true rfl), (Nat.le_of_ble_eq_true rfl)⟩ ⟨g_59a, g_59b⟩ dX12_init_165) ?_
  exact tt_cret (pc := 168) E hr hlk dX12_init_168 hf
