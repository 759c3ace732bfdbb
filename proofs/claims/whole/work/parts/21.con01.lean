/-! contracts -/
set_option maxHeartbeats 4000000 in
theorem cX3_copyFrom_ok {l : Launch} {B : Nat} {D : va_G} {cT : Nat → ClassId} {n : Nat} {adK adV : Nat → Nat} {o0 : Nat} {o1 : Nat} {μ : Mem} {res : Mem} (h0 : isK n o0 2) (h1 : isK n o1 2) (hf : fX3_copyFrom o0 o1 μ = some res) : MV l yX3_copyFrom cX3_copyFrom 2 (none) rmX3_copyFrom B D cT (XW B adK adV) n [.ref (B + o0), .ref (B + o1)] μ res := by
  refine tt_ofW mtX3_copyFrom.1 (Nat.le_of_ble_eq_true rfl) rfl ?_
  intro p e s m below meth c E0 hr hlk
  have E : EE p s m _ c cX3_copyFrom 2 RX3 B D cT (XW B adK adV) := E0
  unfold fX3_copyFrom at hf
  refine tt_aload_n (pc := 0) (i := 0) (j := 0) E dX3_copyFrom_0 rfl rfl ?_
  refine tt_aload_n (pc := 1) (i := 1) (j := 1) E dX3_copyFrom_1 rfl rfl ?_
  refine tt_getI (pc := 2) E lfX3_18 rfl h1 dX3_copyFrom_2 ?_
  refine tt_putI (pc := 5) E lfX3_18 rfl h0 dX3_copyFrom_5 (tt_nmM hf (fun m_1 hf => ?_))
  refine tt_aload_n (pc := 8) (i := 1) (j := 1) E dX3_copyFrom_8 rfl rfl ?_
  obtain ⟨q_2, hq_3, hf⟩ := bd_some hf
  refine tt_getP (pc := 9) (t := 11) E lfX3_9 rfl rfl h1 dX3_copyFrom_9 hq_3 (fun kq_4 => ?_)
  refine tt_aload_n (pc := 12) (i := 0) (j := 0) E dX3_copyFrom_12 rfl rfl ?_
  obtain ⟨q_5, hq_6, hf⟩ := bd_some hf
  refine tt_getP (pc := 13) (t := 11) E lfX3_9 rfl rfl h0 dX3_copyFrom_13 hq_6 (fun kq_7 => ?_)
  obtain ⟨r_8, hr_9, hf⟩ := bd_some hf
  have hc_10 := cX3_copyActs_ok (l := l) (B := B) (D := D) (cT := cT) (n := n) (adK := adK) (adV := adV) kq_4 kq_7 hr_9
  refine tt_cV (pc := 16) (tt_si E lmX3_62 mtX3_copyActs hc_10 rfl rfl (Nat.le_of_ble_eq_true rfl) ⟨(Nat.le_of_ble_eq_true rfl), (Nat.le_of_ble_eq_true rfl)⟩ ⟨(Nat.le_of_ble_eq_true rfl), (Nat.le_of_ble_eq_true rfl)⟩ dX3_copyFrom_16) ?_
  refine tt_aload_n (pc := 19) (i := 1) (j := 1) E dX3_copyFrom_19 rfl rfl ?_
  obtain ⟨q_11, hq_12, hf⟩ := bd_some hf
  refine tt_getP (pc := 20) (t := 11) E lfX3_15 rfl rfl h1 dX3_copyFrom_20 hq_12 (fun kq_13 => ?_)
  refine tt_aload_n (pc := 23) (i := 0) (j := 0) E dX3_copyFrom_23 rfl rfl ?_
  obtain ⟨q_14, hq_15, hf⟩ := bd_some hf
  refine tt_getP (pc := 24) (t := 11) E lfX3_15 rfl rfl h0 dX3_copyFrom_24 hq_15 (fun kq_16 => ?_)
  obtain ⟨r_17, hr_18, hf⟩ := bd_some hf
  have hc_19 := cX3_copyActs_ok (l := l) (B := B) (D := D) (cT := cT) (n := n) (adK := adK) (adV := adV) kq_13 kq_16 hr_18
  refine tt_cV (pc := 27) (tt_si E lmX3_62 mtX3_copyActs hc_19 rfl rfl (Nat.le_of_ble_eq_true rfl) ⟨(Nat.le_of_ble_eq_true rfl), (Nat.le_of_ble_eq_true rfl)⟩ ⟨(Nat.le_of_ble_eq_true rfl), (Nat.le_of_ble_eq_true rfl)⟩ dX3_copyFrom_27) ?_
  refine tt_aload_n (pc := 30) (i := 0) (j := 0) E dX3_copyFrom_30 rfl rfl ?_
  refine tt_aload_n (pc := 31) (i := 1) (j := 1) E dX3_copyFrom_31 rfl rfl ?_
  refine tt_getJ (pc := 32) E lfX3_22 rfl h1 dX3_copyFrom_32 ?_
  refine tt_putJ (pc := 35) E lfX3_22 rfl h0 dX3_copyFrom_35 (tt_nmM hf (fun m_20 hf => ?_))
  refine tt_aload_n (pc := 38) (i := 0) (j := 0) E dX3_copyFrom_38 rfl rfl ?_
  refine tt_aload_n (pc := 39) (i := 1) (j := 1) E dX3_copyFrom_39 rfl rfl ?_
  refine tt_getI (pc := 40) E lfX3_26 rfl h1 dX3_copyFrom_40 ?_
  refine tt_putI (pc := 43) E lfX3_26 rfl h0 dX3_copyFrom_43 (tt_nmM hf (fun m_21 hf => ?_))
  refine tt_aload_n (pc := 46) (i := 0) (j := 0) E dX3_copyFrom_46 rfl rfl ?_
  refine tt_aload_n (pc := 47) (i := 1) (j := 1) E dX3_copyFrom_47 rfl rfl ?_
  refine tt_getI (pc := 48) E lfX3_29 rfl h1 dX3_copyFrom_48 ?_
  refine tt_putI (pc := 51) E lfX3_29 rfl h0 dX3_copyFrom_51 (tt_nmM hf (fun m_22 hf => ?_))
  refine tt_aload_n (pc := 54) (i := 0) (j := 0) E dX3_copyFrom_54 rfl rfl ?_
  refine tt_aload_n (pc := 55) (i := 1) (j := 1) E dX3_copyFrom_55 rfl rfl ?_
  refine tt_getI (pc := 56) E lfX3_32 rfl h1 dX3_copyFrom_56 ?_
  refine tt_putI (pc := 59) E lfX3_32 rfl h0 dX3_copyFrom_59 (tt_nmM hf (fun m_23 hf => ?_))
  refine tt_aload_n (pc := 62) (i := 0) (j := 0) E dX3_copyFrom_62 rfl rfl ?_
  refine tt_aload_n (pc := 63) (i := 1) (j := 1) E dX3_copyFrom_63 rfl rfl ?_
  refine tt_getI (pc := 64) E lfX3_35 rfl h1 dX3_copyFrom_64 ?_
  refine tt_putI (pc := 67) E lfX3_35 rfl h0 dX3_copyFrom_67 (tt_nmM hf (fun m_24 hf => ?_))
  refine tt_aload_n (pc := 70) (i := 0) (j := 0) E dX3_copyFrom_70 rfl rfl ?_
  refine tt_aload_n (pc := 71) (i := 1) (j := 1) E dX3_copyFrom_71 rfl rfl ?_
  refine tt_getI (pc := 72) E lfX3_38 rfl h1 dX3_copyFrom_72 ?_
  refine tt_putI (pc := 75) E lfX3_38 rfl h0 dX3_copyFrom_75 (tt_nmM hf (fun m_25 hf => ?_))
  refine tt_aload_n (pc := 78) (i := 0) (j := 0) E dX3_copyFrom_78 rfl rfl ?_
  refine tt_aload_n (pc := 79) (i := 1) (j := 1) E dX3_copyFrom_79 rfl rfl ?_
  refine tt_getI (pc := 80) E lfX3_41 rfl h1 dX3_copyFrom_80 ?_
  refine tt_putI (pc := 83) E lfX3_41 rfl h0 dX3_copyFrom_83 (tt_nmM hf (fun m_26 hf => ?_))
  refine tt_aload_n (pc := 86) (i := 0) (j := 0) E dX3_copyFrom_86 rfl rfl ?_
  refine tt_aload_n (pc := 87) (i := 1) (j := 1) E dX3_copyFrom_87 rfl rfl ?_
  refine tt_getI (pc := 88) E lfX3_44 rfl h1 dX3_copyFrom_88 ?_
  refine tt_putI (pc := 91) E lfX3_44 rfl h0 dX3_copyFrom_91 (tt_nmM hf (fun m_27 hf => ?_))
  refine tt_aload_n (pc := 94) (i := 0) (j := 0) E dX3_copyFrom_94 rfl rfl ?_
  refine tt_aload_n (pc := 95) (i := 1) (j := 1) E dX3_copyFrom_95 rfl rfl ?_
  refine tt_getI (pc := 96) E lfX3_47 rfl h1 dX3_copyFrom_96 ?_
  refine tt_putI (pc := 99) E lfX3_47 rfl h0 dX3_copyFrom_99 (tt_nmM hf (fun m_28 hf => ?_))
  refine tt_aload_n (pc := 102) (i := 0) (j := 0) E dX3_copyFrom_102 rfl rfl ?_
  refine tt_aload_n (pc := 103) (i := 1) (j := 1) E dX3_copyFrom_103 rfl rfl ?_
  refine tt_getI (pc := 104) E lfX3_50 rfl h1 dX3_copyFrom_104 ?_
  refine tt_putI (pc := 107) E lfX3_50 rfl h0 dX3_copyFrom_107 (tt_nmM hf (fun m_29 hf => ?_))
  refine tt_aload_n (pc := 110) (i := 0) (j := 0) E dX3_copyFrom_110 rfl rfl ?_
  refine tt_aload_n (pc := 111) (i := 1) (j := 1) E dX3_copyFrom_111 rfl rfl ?_
  refine tt_getI (pc := 112) E lfX3_53 rfl h1 dX3_copyFrom_112 ?_
  refine tt_putI (pc := 115) E lfX3_53 rfl h0 dX3_copyFrom_115 (tt_nmM hf (fun m_30 hf => ?_))
  refine tt_aload_n (pc := 118) (i := 0) (j := 0) E dX3_copyFrom_118 rfl rfl ?_
  refine tt_aload_n (pc := 119) (i := 1) (j := 1) E dX3_copyFrom_119 rfl rfl ?_
  refine tt_getI (pc := 120) E lfX3_56 rfl h1 dX3_copyFrom_120 ?_
  refine tt_putI (pc := 123) E lfX3_56 rfl h0 dX3_copyFrom_123 (tt_nmM hf (fun m_31 hf => ?_))
  exact tt_vret (pc := 126) E hr hlk dX3_copyFrom_126 (Nat.le_of_ble_eq_true rfl) (Nat.le_of_ble_eq_true rfl) hf
set_option maxHeartbeats 4000000 in
theorem tX2_clear_10 {p : Program} {l : Launch} {e : Env} {s : State} {m : MethodId} {args : Array Value} {below : List Frame} {meth : Method} {c : Code} {B : Nat} {D : va_G} {cT : Nat → ClassId} {n : Nat} {adK adV : Nat → Nat} {res : Mem} (E : EE p s m args c cX2_clear 5 RX2 B D cT (XW B adK adV)) (hr : meth.sig.returnType = none) (hlk : meth.locks = false) {o0 : Nat} {o1 : Nat} {v2 : Int32} (h0 : isK n o0 1) (h1 : isK n o1 15) : ∀ (fu : Nat) (v3 : Int32) (μ : Mem), zl2 (gX2_clear_10 o0 o1 v2) fu v3 μ = some res → TT p l e rmX2_clear s m args below meth c (QV B D cT n below args s res) 5 B D cT n 0 0 μ 10 [(0, .ref (B + o0)), (1, .ref (B + o1)), (2, .int v2), (3, .int v3)] [] := by
  intro fu
  induction fu with
  | zero => intro v3 μ hf; exact absurd hf (fun h => by cases h)
  | succ fu ih =>
    intro v3 μ hf
    have hf : gX2_clear_10 o0 o1 v2 (zl2 (gX2_clear_10 o0 o1 v2) fu) v3 μ = some res := hf
    unfold gX2_clear_10 at hf
    refine tt_iload_n (pc := 10) (i := 3) (j := 3) E dX2_clear_10 rfl rfl ?_
    refine tt_iload_n (pc := 11) (i := 2) (j := 2) E dX2_clear_11 rfl rfl ?_
    refine tt_icmp_ge (pc := 12) (tgt := 35) E dX2_clear_12 rfl (fun c_16 => ?_) (fun c_16 => ?_)
    · have hf := ip c_16 hf
      refine tt_aload_n (pc := 35) (i := 0) (j := 0) E dX2_clear_35 rfl rfl ?_
      refine tt_iconst (pc := 36) (v := 0) E dX2_clear_36 ic_0 ?_
      refine tt_putI (pc := 37) E lfX2_24 rfl h0 dX2_clear_37 (tt_nmM hf (fun m_1 hf => ?_))
      refine tt_aload_n (pc := 40) (i := 0) (j := 0) E dX2_clear_40 rfl rfl ?_
      refine tt_sipush (pc := 41) (v := 300) E dX2_clear_41 sc_300 ?_
      refine tt_putI (pc := 44) E lfX2_28 rfl h0 dX2_clear_44 (tt_nmM hf (fun m_2 hf => ?_))
      refine tt_aload_n (pc := 47) (i := 0) (j := 0) E dX2_clear_47 rfl rfl ?_
      refine tt_iconst (pc := 48) (v := 0) E dX2_clear_48 ic_0 ?_
      refine tt_putI (pc := 49) E lfX2_31 rfl h0 dX2_clear_49 (tt_nmM hf (fun m_3 hf => ?_))
      refine tt_aload_n (pc := 52) (i := 0) (j := 0) E dX2_clear_52 rfl rfl ?_
      refine tt_iconst (pc := 53) (v := 0) E dX2_clear_53 ic_0 ?_
      refine tt_putI (pc := 54) E lfX2_34 rfl h0 dX2_clear_54 (tt_nmM hf (fun m_4 hf => ?_))
      exact tt_vret (pc := 57) E hr hlk dX2_clear_57 (Nat.le_of_ble_eq_true rfl) (Nat.le_of_ble_eq_true rfl) hf
    · have hf := ine c_16 hf
      refine tt_aload_n (pc := 15) (i := 1) (j := 1) E dX2_clear_15 rfl rfl ?_
      refine tt_iload_n (pc := 16) (i := 3) (j := 3) E dX2_clear_16 rfl rfl ?_
      obtain ⟨g_5, hf⟩ := gd_some hf
      obtain ⟨q_6, hq_7, hf⟩ := bd_some hf
      refine tt_aald15 (pc := 17) E h1 g_5 dX2_clear_17 hq_7 (fun kq_8 => ?_)
      refine tt_astore (pc := 18) (i := 4) (lv' := [(4, .ref (B + q_6)), (0, .ref (B + o0)), (1, .ref (B + o1)), (2, .int v2), (3, .int v3)]) E dX2_clear_18 (Nat.le_of_ble_eq_true rfl) rfl ?_
      refine tt_aload (pc := 20) (i := 4) (j := 0) E dX2_clear_20 rfl ?_
      refine tt_aload_n (pc := 22) (i := 0) (j := 1) E dX2_clear_22 rfl rfl ?_
      obtain ⟨q_9, hq_10, hf⟩ := bd_some hf
      refine tt_getP (pc := 23) (t := 2) E lfX2_20 rfl rfl h0 dX2_clear_23 hq_10 (fun kq_11 => ?_)
      obtain ⟨r_12, hr_13, hf⟩ := bd_some hf
      have hc_14 := cX3_copyFrom_ok (l := l) (B := B) (D := D) (cT := cT) (n := n) (adK := adK) (adV := adV) kq_8 kq_11 hr_13
      refine tt_cV (pc := 26) (tt_vi E lmX2_37 mtX3_copyFrom hc_14 kq_8 rfl rfl (Nat.le_of_ble_eq_true rfl) ⟨(Nat.le_of_ble_eq_true rfl), (Nat.le_of_ble_eq_true rfl)⟩ ⟨(Nat.le_of_ble_eq_true rfl), (Nat.le_of_ble_eq_true rfl)⟩ dX2_clear_26) ?_
      obtain ⟨v_15, ev_15, hf⟩ := nm_ex hf
      refine tt_iinc (pc := 29) (i := 3) (j := 4) (lv' := [(3, .int v_15), (4, .ref (B + q_6)), (0, .ref (B + o0)), (1, .ref (B + o1)), (2, .int v2)]) E dX2_clear_29 rfl (ev_15).symm (Nat.le_of_ble_eq_true rfl) rfl ?_
      refine tt_goto (pc := 32) (tgt := 10) E dX2_clear_32 rfl ?_
      refine tt_sub [2, 3, 4, 0] (lv' := [(0, .ref (B + o0)), (1, .ref (B + o1)), (2, .int v2), (3, .int v_15)]) rfl ?_
      exact ih v_15 r_12 hf
set_option maxHeartbeats 4000000 in
theorem cX2_clear_ok {l : Launch} {B : Nat} {D : va_G} {cT : Nat → ClassId} {n : Nat} {adK adV : Nat → Nat} {o0 : Nat} {μ : Mem} {res : Mem} (h0 : isK n o0 1) (hf : fX2_clear o0 μ = some res) : MV l yX2_clear cX2_clear 5 (none) rmX2_clear B D cT (XW B adK adV) n [.ref (B + o0)] μ res := by
  refine tt_ofW mtX2_clear.1 (Nat.le_of_ble_eq_true rfl) rfl ?_
  intro p e s m below meth c E0 hr hlk
  have E : EE p s m _ c cX2_clear 5 RX2 B D cT (XW B adK adV) := E0
  unfold fX2_clear at hf
  refine tt_aload_n (pc := 0) (i := 0) (j := 0) E dX2_clear_0 rfl rfl ?_
  obtain ⟨q_1, hq_2, hf⟩ := bd_some hf
  refine tt_getP (pc := 1) (t := 15) E lfX2_11 rfl rfl h0 dX2_clear_1 hq_2 (fun kq_3 => ?_)
  refine tt_astore_n (pc := 4) (i := 1) (lv' := [(1, .ref (B + q_1)), (0, .ref (B + o0))]) E dX2_clear_4 rfl (Nat.le_of_ble_eq_true rfl) rfl ?_
  refine tt_aload_n (pc := 5) (i := 1) (j := 0) E dX2_clear_5 rfl rfl ?_
  refine tt_alen (pc := 6) (v := Int32.ofNat (Ln q_1)) E (k := 15) ⟨(Nat.le_of_ble_eq_true rfl), (Nat.le_of_ble_eq_true rfl)⟩ kq_3 rfl dX2_clear_6 ?_
  refine tt_nmI hf (fun v_4 hf => ?_)
  refine tt_istore_n (pc := 7) (i := 2) (lv' := [(2, .int v_4), (1, .ref (B + q_1)), (0, .ref (B + o0))]) E dX2_clear_7 rfl (Nat.le_of_ble_eq_true rfl) rfl ?_
  refine tt_iconst (pc := 8) (v := 0) E dX2_clear_8 ic_0 ?_
  refine tt_istore_n (pc := 9) (i := 3) (lv' := [(3, .int 0), (2, .int v_4), (1, .ref (B + q_1)), (0, .ref (B + o0))]) E dX2_clear_9 rfl (Nat.le_of_ble_eq_true rfl) rfl ?_
  refine tt_sub [3, 2, 1, 0] (lv' := [(0, .ref (B + o0)), (1, .ref (B + q_1)), (2, .int v_4), (3, .int 0)]) rfl ?_
  exact tX2_clear_10 E hr hlk h0 kq_3 FU 0 μ hf
set_option maxHeartbeats 4000000 in
theorem tX2_copyFrom_11 {p : Program} {l : Launch} {e : Env} {s : State} {m : MethodId} {args : Array Value} {below : List Frame} {meth : Method} {c : Code} {B : Nat} {D : va_G} {cT : Nat → ClassId} {n : Nat} {adK adV : Nat → Nat} {res : Mem} (E : EE p s m args c cX2_copyFrom 6 RX2 B D cT (XW B adK adV)) (hr : meth.sig.returnType = none) (hlk : meth.locks = false) {o0 : Nat} {o1 : Nat} {o2 : Nat} {v3 : Int32} (h0 : isK n o0 1) (h1 : isK n o1 1) (h2 : isK n o2 15) : ∀ (fu : Nat) (v4 : Int32) (μ : Mem), zl2 (gX2_copyFrom_11 o0 o1 o2 v3) fu v4 μ = some res → TT p l e rmX2_copyFrom s m args below meth c (QV B D cT n below args s res) 6 B D cT n 0 0 μ 11 [(0, .ref (B + o0)), (1, .ref (B + o1)), (2, .ref (B + o2)), (3, .int v3), (4, .int v4)] [] := by
  intro fu
  induction fu with
  | zero => intro v4 μ hf; exact absurd hf (fun h => by cases h)
  | succ fu ih =>
    intro v4 μ hf
    have hf : gX2_copyFrom_11 o0 o1 o2 v3 (zl2 (gX2_copyFrom_11 o0 o1 o2 v3) fu) v4 μ = some res := hf
    unfold gX2_copyFrom_11 at hf
    refine tt_iload (pc := 11) (i := 4) (j := 4) E dX2_copyFrom_11 rfl ?_
    refine tt_iload_n (pc := 13) (i := 3) (j := 3) E dX2_copyFrom_13 rfl rfl ?_
    refine tt_icmp_ge (pc := 14) (tgt := 43) E dX2_copyFrom_14 rfl (fun c_17 => ?_) (fun c_17 => ?_)
    · have hf := ip c_17 hf
      refine tt_aload_n (pc := 43) (i := 0) (j := 0) E dX2_copyFrom_43 rfl rfl ?_
      refine tt_aload_n (pc := 44) (i := 1) (j := 1) E dX2_copyFrom_44 rfl rfl ?_
      refine tt_getI (pc := 45) E lfX2_24 rfl h1 dX2_copyFrom_45 ?_
      refine tt_putI (pc := 48) E lfX2_24 rfl h0 dX2_copyFrom_48 (tt_nmM hf (fun m_1 hf => ?_))
      refine tt_aload_n (pc := 51) (i := 0) (j := 0) E dX2_copyFrom_51 rfl rfl ?_
      refine tt_aload_n (pc := 52) (i := 1) (j := 1) E dX2_copyFrom_52 rfl rfl ?_
      refine tt_getI (pc := 53) E lfX2_28 rfl h1 dX2_copyFrom_53 ?_
      refine tt_putI (pc := 56) E lfX2_28 rfl h0 dX2_copyFrom_56 (tt_nmM hf (fun m_2 hf => ?_))
      refine tt_aload_n (pc := 59) (i := 0) (j := 0) E dX2_copyFrom_59 rfl rfl ?_
      refine tt_aload_n (pc := 60) (i := 1) (j := 1) E dX2_copyFrom_60 rfl rfl ?_
      refine tt_getI (pc := 61) E lfX2_31 rfl h1 dX2_copyFrom_61 ?_
      refine tt_putI (pc := 64) E lfX2_31 rfl h0 dX2_copyFrom_64 (tt_nmM hf (fun m_3 hf => ?_))
      refine tt_aload_n (pc := 67) (i := 0) (j := 0) E dX2_copyFrom_67 rfl rfl ?_
      refine tt_aload_n (pc := 68) (i := 1) (j := 1) E dX2_copyFrom_68 rfl rfl ?_
      refine tt_getI (pc := 69) E lfX2_34 rfl h1 dX2_copyFrom_69 ?_
      refine tt_putI (pc := 72) E lfX2_34 rfl h0 dX2_copyFrom_72 (tt_nmM hf (fun m_4 hf => ?_))
      exact tt_vret (pc := 75) E hr hlk dX2_copyFrom_75 (Nat.le_of_ble_eq_true rfl) (Nat.le_of_ble_eq_true rfl) hf
    · have hf := ine c_17 hf
      refine tt_aload_n (pc := 17) (i := 2) (j := 2) E dX2_copyFrom_17 rfl rfl ?_
      refine tt_iload (pc := 18) (i := 4) (j := 4) E dX2_copyFrom_18 rfl ?_
      obtain ⟨g_5, hf⟩ := gd_some hf
      obtain ⟨q_6, hq_7, hf⟩ := bd_some hf
      refine tt_aald15 (pc := 20) E h2 g_5 dX2_copyFrom_20 hq_7 (fun kq_8 => ?_)
      refine tt_astore (pc := 21) (i := 5) (lv' := [(5, .ref (B + q_6)), (0, .ref (B + o0)), (1, .ref (B + o1)), (2, .ref (B + o2)), (3, .int v3), (4, .int v4)]) E dX2_copyFrom_21 (Nat.le_of_ble_eq_true rfl) rfl ?_
      refine tt_aload (pc := 23) (i := 5) (j := 0) E dX2_copyFrom_23 rfl ?_
      refine tt_aload_n (pc := 25) (i := 1) (j := 2) E dX2_copyFrom_25 rfl rfl ?_
      refine tt_aload (pc := 26) (i := 5) (j := 0) E dX2_copyFrom_26 rfl ?_
      refine tt_getI (pc := 28) E lfX2_41 rfl kq_8 dX2_copyFrom_28 ?_
      obtain ⟨r_9, hr_10, hf⟩ := bd_some hf
      have hc_11 := cX2_at_ok (l := l) (B := B) (D := D) (cT := cT) (n := n) (adK := adK) (adV := adV) h1 hr_10
      refine tt_cP (pc := 31) (tt_vi E lmX2_44 mtX2_at hc_11 h1 rfl rfl (Nat.le_of_ble_eq_true rfl) ⟨(Nat.le_of_ble_eq_true rfl), (Nat.le_of_ble_eq_true rfl)⟩ ⟨(Nat.le_of_ble_eq_true rfl), (Nat.le_of_ble_eq_true rfl)⟩ dX2_copyFrom_31) (fun kq_12 => ?_)
      obtain ⟨r_13, hr_14, hf⟩ := bd_some hf
      have hc_15 := cX3_copyFrom_ok (l := l) (B := B) (D := D) (cT := cT) (n := n) (adK := adK) (adV := adV) kq_8 kq_12 hr_14
      refine tt_cV (pc := 34) (tt_vi E lmX2_37 mtX3_copyFrom hc_15 kq_8 rfl rfl (Nat.le_of_ble_eq_true rfl) ⟨(Nat.le_of_ble_eq_true rfl), (Nat.le_of_ble_eq_true rfl)⟩ ⟨(Nat.le_of_ble_eq_true rfl), (Nat.le_of_ble_eq_true rfl)⟩ dX2_copyFrom_34) ?_
      obtain ⟨v_16, ev_16, hf⟩ := nm_ex hf
      refine tt_iinc (pc := 37) (i := 4) (j := 5) (lv' := [(4, .int v_16), (5, .ref (B + q_6)), (0, .ref (B + o0)), (1, .ref (B + o1)), (2, .ref (B + o2)), (3, .int v3)]) E dX2_copyFrom_37 rfl (ev_16).symm (Nat.le_of_ble_eq_true rfl) rfl ?_
      refine tt_goto (pc := 40) (tgt := 11) E dX2_copyFrom_40 rfl ?_
      refine tt_sub [2, 3, 4, 5, 0] (lv' := [(0, .ref (B + o0)), (1, .ref (B + o1)), (2, .ref (B + o2)), (3, .int v3), (4, .int v_16)]) rfl ?_
      exact ih v_16 r_13 hf
set_option maxHeartbeats 4000000 in
theorem cX2_copyFrom_ok {l : Launch} {B : Nat} {D : va_G} {cT : Nat → ClassId} {n : Nat} {adK adV : Nat → Nat} {o0 : Nat} {o1 : Nat} {μ : Mem} {res : Mem} (h0 : isK n o0 1) (h1 : isK n o1 1) (hf : fX2_copyFrom o0 o1 μ = some res) : MV l yX2_copyFrom cX2_copyFrom 6 (none) rmX2_copyFrom B D cT (XW B adK adV) n [.ref (B + o0), .ref (B + o1)] μ res := by
  refine tt_ofW mtX2_copyFrom.1 (Nat.le_of_ble_eq_true rfl) rfl ?_
  intro p e s m below meth c E0 hr hlk
  have E : EE p s m _ c cX2_copyFrom 6 RX2 B D cT (XW B adK adV) := E0
  unfold fX2_copyFrom at hf
  refine tt_aload_n (pc := 0) (i := 0) (j := 0) E dX2_copyFrom_0 rfl rfl ?_
  obtain ⟨q_1, hq_2, hf⟩ := bd_some hf
  refine tt_getP (pc := 1) (t := 15) E lfX2_11 rfl rfl h0 dX2_copyFrom_1 hq_2 (fun kq_3 => ?_)
  refine tt_astore_n (pc := 4) (i := 2) (lv' := [(2, .ref (B + q_1)), (0, .ref (B + o0)), (1, .ref (B + o1))]) E dX2_copyFrom_4 rfl (Nat.le_of_ble_eq_true rfl) rfl ?_
  refine tt_aload_n (pc := 5) (i := 2) (j := 0) E dX2_copyFrom_5 rfl rfl ?_
  refine tt_alen (pc := 6) (v := Int32.ofNat (Ln q_1)) E (k := 15) ⟨(Nat.le_of_ble_eq_true rfl), (Nat.le_of_ble_eq_true rfl)⟩ kq_3 rfl dX2_copyFrom_6 ?_
  refine tt_nmI hf (fun v_4 hf => ?_)
  refine tt_istore_n (pc := 7) (i := 3) (lv' := [(3, .int v_4), (2, .ref (B + q_1)), (0, .ref (B + o0)), (1, .ref (B + o1))]) E dX2_copyFrom_7 rfl (Nat.le_of_ble_eq_true rfl) rfl ?_
  refine tt_iconst (pc := 8) (v := 0) E dX2_copyFrom_8 ic_0 ?_
  refine tt_istore (pc := 9) (i := 4) (lv' := [(4, .int 0), (3, .int v_4), (2, .ref (B + q_1)), (0, .ref (B + o0)), (1, .ref (B + o1))]) E dX2_copyFrom_9 (Nat.le_of_ble_eq_true rfl) rfl ?_
  refine tt_sub [3, 4, 2, 1, 0] (lv' := [(0, .ref (B + o0)), (1, .ref (B + o1)), (2, .ref (B + q_1)), (3, .int v_4), (4, .int 0)]) rfl ?_
  exact tX2_copyFrom_11 E hr hlk h0 h1 kq_3 FU 0 μ hf
set_option maxHeartbeats 4000000 in
theorem tX2_numberOf_12 {p : Program} {l : Launch} {e : Env} {s : State} {m : MethodId} {args : Array Value} {below : List Frame} {meth : Method} {c : Code} {B : Nat} {D : va_G} {cT : Nat → ClassId} {n : Nat} {adK adV : Nat → Nat} {res : Int32} (E : EE p s m args c cX2_numberOf 7 RX2 B D cT (XW B adK adV)) (hr : meth.sig.returnType = some .int) (hlk : meth.locks = false) {o0 : Nat} {v1 : Int64} {o3 : Nat} {v4 : Int32} (h0 : isK n o0 1) (h3 : isK n o3 15) {μ : Mem} : ∀ (fu : Nat) (v5 : Int32), zl1 (gX2_numberOf_12 o0 v1 o3 v4 μ) fu v5 = some res → TT p l e rmX2_numberOf s m args below meth c (QI B D cT n below args s (res, μ)) 7 B D cT n 0 0 μ 12 [(0, .ref (B + o0)), (1, .long v1), (3, .ref (B + o3)), (4, .int v4), (5, .int v5)] [] := by
  intro fu
  induction fu with
  | zero => intro v5 hf; exact absurd hf (fun h => by cases h)
  | succ fu ih =>
    intro v5 hf
    have hf : gX2_numberOf_12 o0 v1 o3 v4 μ (zl1 (gX2_numberOf_12 o0 v1 o3 v4 μ) fu) v5 = some res := hf
    unfold gX2_numberOf_12 at hf
    refine tt_iload (pc := 12) (i := 5) (j := 4) E dX2_numberOf_12 rfl ?_
    refine tt_iload (pc := 14) (i := 4) (j := 3) E dX2_numberOf_14 rfl ?_
    refine tt_icmp_ge (pc := 16) (tgt := 59) E dX2_numberOf_16 rfl (fun c_9 => ?_) (fun c_9 => ?_)
    · have hf := ip c_9 hf
      refine tt_iconst (pc := 59) (v := (-1)) E dX2_numberOf_59 ic_m1 ?_
      exact tt_iret (pc := 60) E hr hlk dX2_numberOf_60 (Nat.le_of_ble_eq_true rfl) (Nat.le_of_ble_eq_true rfl) (pv hf)
    · have hf := ine c_9 hf
      refine tt_aload_n (pc := 19) (i := 3) (j := 2) E dX2_numberOf_19 rfl rfl ?_
      refine tt_iload (pc := 20) (i := 5) (j := 4) E dX2_numberOf_20 rfl ?_
      obtain ⟨g_1, hf⟩ := gd_some hf
      obtain ⟨q_2, hq_3, hf⟩ := bd_some hf
      refine tt_aald15 (pc := 22) E h3 g_1 dX2_numberOf_22 hq_3 (fun kq_4 => ?_)
      refine tt_astore (pc := 23) (i := 6) (lv' := [(6, .ref (B + q_2)), (0, .ref (B + o0)), (1, .long v1), (3, .ref (B + o3)), (4, .int v4), (5, .int v5)]) E dX2_numberOf_23 (Nat.le_of_ble_eq_true rfl) rfl ?_
      refine tt_aload (pc := 25) (i := 6) (j := 0) E dX2_numberOf_25 rfl ?_
      refine tt_getI (pc := 27) E lfX2_41 rfl kq_4 dX2_numberOf_27 ?_
      refine tt_aload_n (pc := 30) (i := 0) (j := 1) E dX2_numberOf_30 rfl rfl ?_
      refine tt_getI (pc := 31) E lfX2_24 rfl h0 dX2_numberOf_31 ?_
      refine tt_icmp_ge (pc := 34) (tgt := 53) E dX2_numberOf_34 rfl (fun c_8 => ?_) (fun c_8 => ?_)
      · have hf := ip c_8 hf
        obtain ⟨v_5, ev_5, hf⟩ := nm_ex hf
        refine tt_iinc (pc := 53) (i := 5) (j := 5) (lv' := [(5, .int v_5), (6, .ref (B + q_2)), (0, .ref (B + o0)), (1, .long v1), (3, .ref (B + o3)), (4, .int v4)]) E dX2_numberOf_53 rfl (ev_5).symm (Nat.le_of_ble_eq_true rfl) rfl ?_
        refine tt_goto (pc := 56) (tgt := 12) E dX2_numberOf_56 rfl ?_
        refine tt_sub [2, 3, 4, 5, 0] (lv' := [(0, .ref (B + o0)), (1, .long v1), (3, .ref (B + o3)), (4, .int v4), (5, .int v_5)]) rfl ?_
        exact ih v_5 hf
      · have hf := ine c_8 hf
        refine tt_aload (pc := 37) (i := 6) (j := 0) E dX2_numberOf_37 rfl ?_
        refine tt_getJ (pc := 39) E lfX2_48 rfl kq_4 dX2_numberOf_39 ?_
        refine tt_lload_n (pc := 42) (i := 1) (j := 2) E dX2_numberOf_42 rfl rfl ?_
        refine tt_lcmp (pc := 43) E dX2_numberOf_43 ?_
        refine tt_if_ne (pc := 44) (tgt := 53) E dX2_numberOf_44 rfl (fun c_7 => ?_) (fun c_7 => ?_)
        · have hf := ine c_7 hf
          obtain ⟨v_6, ev_6, hf⟩ := nm_ex hf
          refine tt_iinc (pc := 53) (i := 5) (j := 5) (lv' := [(5, .int v_6), (6, .ref (B + q_2)), (0, .ref (B + o0)), (1, .long v1), (3, .ref (B + o3)), (4, .int v4)]) E dX2_numberOf_53 rfl (ev_6).symm (Nat.le_of_ble_eq_true rfl) rfl ?_
          refine tt_goto (pc := 56) (tgt := 12) E dX2_numberOf_56 rfl ?_
          refine tt_sub [2, 3, 4, 5, 0] (lv' := [(0, .ref (B + o0)), (1, .long v1), (3, .ref (B + o3)), (4, .int v4), (5, .int v_6)]) rfl ?_
          exact ih v_6 hf
        · have hf := ip c_7 hf
          refine tt_aload (pc := 47) (i := 6) (j := 0) E dX2_numberOf_47 rfl ?_
          refine tt_getI (pc := 49) E lfX2_41 rfl kq_4 dX2_numberOf_49 ?_
          exact tt_iret (pc := 52) E hr hlk dX2_numberOf_52 (Nat.le_of_ble_eq_true rfl) (Nat.le_of_ble_eq_true rfl) (pv hf)
set_option maxHeartbeats 4000000 in
theorem cX2_numberOf_ok {l : Launch} {B : Nat} {D : va_G} {cT : Nat → ClassId} {n : Nat} {adK adV : Nat → Nat} {o0 : Nat} {v1 : Int64} {μ : Mem} {res : Int32} (h0 : isK n o0 1) (hf : fX2_numberOf o0 v1 μ = some res) : MI l yX2_numberOf cX2_numberOf 7 (some .int) rmX2_numberOf B D cT (XW B adK adV) n [.ref (B + o0), .long v1] μ (res, μ) := by
  refine tt_ofW mtX2_numberOf.1 (Nat.le_of_ble_eq_true rfl) rfl ?_
  intro p e s m below meth c E0 hr hlk
  have E : EE p s m _ c cX2_numberOf 7 RX2 B D cT (XW B adK adV) := E0
  unfold fX2_numberOf at hf
  refine tt_aload_n (pc := 0) (i := 0) (j := 0) E dX2_numberOf_0 rfl rfl ?_
  obtain ⟨q_1, hq_2, hf⟩ := bd_some hf
  refine tt_getP (pc := 1) (t := 15) E lfX2_11 rfl rfl h0 dX2_numberOf_1 hq_2 (fun kq_3 => ?_)
  refine tt_astore_n (pc := 4) (i := 3) (lv' := [(3, .ref (B + q_1)), (0, .ref (B + o0)), (1, .long v1)]) E dX2_numberOf_4 rfl (Nat.le_of_ble_eq_true rfl) rfl ?_
  refine tt_aload_n (pc := 5) (i := 3) (j := 0) E dX2_numberOf_5 rfl rfl ?_
  refine tt_alen (pc := 6) (v := Int32.ofNat (Ln q_1)) E (k := 15) ⟨(Nat.le_of_ble_eq_true rfl), (Nat.le_of_ble_eq_true rfl)⟩ kq_3 rfl dX2_numberOf_6 ?_
  refine tt_nmI hf (fun v_4 hf => ?_)
  refine tt_istore (pc := 7) (i := 4) (lv' := [(4, .int v_4), (3, .ref (B + q_1)), (0, .ref (B + o0)), (1, .long v1)]) E dX2_numberOf_7 (Nat.le_of_ble_eq_true rfl) rfl ?_
  refine tt_iconst (pc := 9) (v := 0) E dX2_numberOf_9 ic_0 ?_
  refine tt_istore (pc := 10) (i := 5) (lv' := [(5, .int 0), (4, .int v_4), (3, .ref (B + q_1)), (0, .ref (B + o0)), (1, .long v1)]) E dX2_numberOf_10 (Nat.le_of_ble_eq_true rfl) rfl ?_
  refine tt_sub [3, 4, 2, 1, 0] (lv' := [(0, .ref (B + o0)), (1, .long v1), (3, .ref (B + q_1)), (4, .int v_4), (5, .int 0)]) rfl ?_
  exact tX2_numberOf_12 E hr hlk h0 kq_3 FU 0 hf
set_option maxHeartbeats 4000000 in
theorem tX2_living_13 {p : Program} {l : Launch} {e : Env} {s : State} {m : MethodId} {args : Array Value} {below : List Frame} {meth : Method} {c : Code} {B : Nat} {D : va_G} {cT : Nat → ClassId} {n : Nat} {adK adV : Nat → Nat} {res : Int32} (E : EE p s m args c cX2_living 6 RX2 B D cT (XW B adK adV)) (hr : meth.sig.returnType = some .int) (hlk : meth.locks = false) {o2 : Nat} {v3 : Int32} (h2 : isK n o2 15) {μ : Mem} : ∀ (fu : Nat) (v1 : Int32) (v4 : Int32), zl2 (gX2_living_13 o2 v3 μ) fu v1 v4 = some res → TT p l e rmX2_living s m args below meth c (QI B D cT n below args s (res, μ)) 6 B D cT n 0 0 μ 13 [(1, .int v1), (2, .ref (B + o2)), (3, .int v3), (4, .int v4)] [] := by
  intro fu
  induction fu with
  | zero => intro v1 v4 hf; exact absurd hf (fun h => by cases h)
  | succ fu ih =>
    intro v1 v4 hf
    have hf : gX2_living_13 o2 v3 μ (zl2 (gX2_living_13 o2 v3 μ) fu) v1 v4 = some res := hf
    unfold gX2_living_13 at hf
    refine tt_iload (pc := 13) (i := 4) (j := 3) E dX2_living_13 rfl ?_
    refine tt_iload_n (pc := 15) (i := 3) (j := 2) E dX2_living_15 rfl rfl ?_
    refine tt_icmp_ge (pc := 16) (tgt := 42) E dX2_living_16 rfl (fun c_9 => ?_) (fun c_9 => ?_)
    · have hf := ip c_9 hf
      refine tt_iload_n (pc := 42) (i := 1) (j := 0) E dX2_living_42 rfl rfl ?_
      exact tt_iret (pc := 43) E hr hlk dX2_living_43 (Nat.le_of_ble_eq_true rfl) (Nat.le_of_ble_eq_true rfl) (pv hf)
    · have hf := ine c_9 hf
      refine tt_aload_n (pc := 19) (i := 2) (j := 1) E dX2_living_19 rfl rfl ?_
      refine tt_iload (pc := 20) (i := 4) (j := 3) E dX2_living_20 rfl ?_
      obtain ⟨g_1, hf⟩ := gd_some hf
      obtain ⟨q_2, hq_3, hf⟩ := bd_some hf
      refine tt_aald15 (pc := 22) E h2 g_1 dX2_living_22 hq_3 (fun kq_4 => ?_)
      refine tt_astore (pc := 23) (i := 5) (lv' := [(5, .ref (B + q_2)), (1, .int v1), (2, .ref (B + o2)), (3, .int v3), (4, .int v4)]) E dX2_living_23 (Nat.le_of_ble_eq_true rfl) rfl ?_
      refine tt_aload (pc := 25) (i := 5) (j := 0) E dX2_living_25 rfl ?_
      refine tt_getI (pc := 27) E lfX2_52 rfl kq_4 dX2_living_27 ?_
      refine tt_if_le (pc := 30) (tgt := 36) E dX2_living_30 rfl (fun c_8 => ?_) (fun c_8 => ?_)
      · have hf := ip c_8 hf
        obtain ⟨v_5, ev_5, hf⟩ := nm_ex hf
        refine tt_iinc (pc := 36) (i := 4) (j := 4) (lv' := [(4, .int v_5), (5, .ref (B + q_2)), (1, .int v1), (2, .ref (B + o2)), (3, .int v3)]) E dX2_living_36 rfl (ev_5).symm (Nat.le_of_ble_eq_true rfl) rfl ?_
        refine tt_goto (pc := 39) (tgt := 13) E dX2_living_39 rfl ?_
        refine tt_sub [2, 3, 4, 0] (lv' := [(1, .int v1), (2, .ref (B + o2)), (3, .int v3), (4, .int v_5)]) rfl ?_
        exact ih v1 v_5 hf
      · have hf := ine c_8 hf
        obtain ⟨v_6, ev_6, hf⟩ := nm_ex hf
        refine tt_iinc (pc := 33) (i := 1) (j := 1) (lv' := [(1, .int v_6), (5, .ref (B + q_2)), (2, .ref (B + o2)), (3, .int v3), (4, .int v4)]) E dX2_living_33 rfl (ev_6).symm (Nat.le_of_ble_eq_true rfl) rfl ?_
        obtain ⟨v_7, ev_7, hf⟩ := nm_ex hf
        refine tt_iinc (pc := 36) (i := 4) (j := 4) (lv' := [(4, .int v_7), (1, .int v_6), (5, .ref (B + q_2)), (2, .ref (B + o2)), (3, .int v3)]) E dX2_living_36 rfl (ev_7).symm (Nat.le_of_ble_eq_true rfl) rfl ?_
        refine tt_goto (pc := 39) (tgt := 13) E dX2_living_39 rfl ?_
        refine tt_sub [1, 3, 4, 0] (lv' := [(1, .int v_6), (2, .ref (B + o2)), (3, .int v3), (4, .int v_7)]) rfl ?_
        exact ih v_6 v_7 hf
set_option maxHeartbeats 4000000 in
theorem cX2_living_ok {l : Launch} {B : Nat} {D : va_G} {cT : Nat → ClassId} {n : Nat} {adK adV : Nat → Nat} {o0 : Nat} {μ : Mem} {res : Int32} (h0 : isK n o0 1) (hf : fX2_living o0 μ = some res) : MI l yX2_living cX2_living 6 (some .int) rmX2_living B D cT (XW B adK adV) n [.ref (B + o0)] μ (res, μ) := by
  refine tt_ofW mtX2_living.1 (Nat.le_of_ble_eq_true rfl) rfl ?_
  intro p e s m below meth c E0 hr hlk
  have E : EE p s m _ c cX2_living 6 RX2 B D cT (XW B adK adV) := E0
  unfold fX2_living at hf
  refine tt_iconst (pc := 0) (v := 0) E dX2_living_0 ic_0 ?_
  refine tt_istore_n (pc := 1) (i := 1) (lv' := [(1, .int 0), (0, .ref (B + o0))]) E dX2_living_1 rfl (Nat.le_of_ble_eq_true rfl) rfl ?_
  refine tt_aload_n (pc := 2) (i := 0) (j := 1) E dX2_living_2 rfl rfl ?_
  obtain ⟨q_1, hq_2, hf⟩ := bd_some hf
  refine tt_getP (pc := 3) (t := 15) E lfX2_11 rfl rfl h0 dX2_living_3 hq_2 (fun kq_3 => ?_)
  refine tt_astore_n (pc := 6) (i := 2) (lv' := [(2, .ref (B + q_1)), (1, .int 0), (0, .ref (B + o0))]) E dX2_living_6 rfl (Nat.le_of_ble_eq_true rfl) rfl ?_
  refine tt_aload_n (pc := 7) (i := 2) (j := 0) E dX2_living_7 rfl rfl ?_
  refine tt_alen (pc := 8) (v := Int32.ofNat (Ln q_1)) E (k := 15) ⟨(Nat.le_of_ble_eq_true rfl), (Nat.le_of_ble_eq_true rfl)⟩ kq_3 rfl dX2_living_8 ?_
  refine tt_nmI hf (fun v_4 hf => ?_)
  refine tt_istore_n (pc := 9) (i := 3) (lv' := [(3, .int v_4), (2, .ref (B + q_1)), (1, .int 0), (0, .ref (B + o0))]) E dX2_living_9 rfl (Nat.le_of_ble_eq_true rfl) rfl ?_
  refine tt_iconst (pc := 10) (v := 0) E dX2_living_10 ic_0 ?_
  refine tt_istore (pc := 11) (i := 4) (lv' := [(4, .int 0), (3, .int v_4), (2, .ref (B + q_1)), (1, .int 0), (0, .ref (B + o0))]) E dX2_living_11 (Nat.le_of_ble_eq_true rfl) rfl ?_
  refine tt_sub [3, 2, 1, 0] (lv' := [(1, .int 0), (2, .ref (B + q_1)), (3, .int v_4), (4, .int 0)]) rfl ?_
  exact tX2_living_13 E hr hlk kq_3 FU 0 0 hf
set_option maxHeartbeats 4000000 in
theorem tX2_speedOfLiving_13 {p : Program} {l : Launch} {e : Env} {s : State} {m : MethodId} {args : Array Value} {below : List Frame} {meth : Method} {c : Code} {B : Nat} {D : va_G} {cT : Nat → ClassId} {n : Nat} {adK adV : Nat → Nat} {res : Int32} (E : EE p s m args c cX2_speedOfLiving 6 RX2 B D cT (XW B adK adV)) (hr : meth.sig.returnType = some .int) (hlk : meth.locks = false) {o2 : Nat} {v3 : Int32} (h2 : isK n o2 15) {μ : Mem} : ∀ (fu : Nat) (v1 : Int32) (v4 : Int32), zl2 (gX2_speedOfLiving_13 o2 v3 μ) fu v1 v4 = some res → TT p l e rmX2_speedOfLiving s m args below meth c (QI B D cT n below args s (res, μ)) 6 B D cT n 0 0 μ 13 [(1, .int v1), (2, .ref (B + o2)), (3, .int v3), (4, .int v4)] [] := by
  intro fu
  induction fu with
  | zero => intro v1 v4 hf; exact absurd hf (fun h => by cases h)
  | succ fu ih =>
    intro v1 v4 hf
    have hf : gX2_speedOfLiving_13 o2 v3 μ (zl2 (gX2_speedOfLiving_13 o2 v3 μ) fu) v1 v4 = some res := hf
    unfold gX2_speedOfLiving_13 at hf
    refine tt_iload (pc := 13) (i := 4) (j := 3) E dX2_speedOfLiving_13 rfl ?_
    refine tt_iload_n (pc := 15) (i := 3) (j := 2) E dX2_speedOfLiving_15 rfl rfl ?_
    refine tt_icmp_ge (pc := 16) (tgt := 47) E dX2_speedOfLiving_16 rfl (fun c_9 => ?_) (fun c_9 => ?_)
    · have hf := ip c_9 hf
      refine tt_iload_n (pc := 47) (i := 1) (j := 0) E dX2_speedOfLiving_47 rfl rfl ?_
      exact tt_iret (pc := 48) E hr hlk dX2_speedOfLiving_48 (Nat.le_of_ble_eq_true rfl) (Nat.le_of_ble_eq_true rfl) (pv hf)
    · have hf := ine c_9 hf
      refine tt_aload_n (pc := 19) (i := 2) (j := 1) E dX2_speedOfLiving_19 rfl rfl ?_
      refine tt_iload (pc := 20) (i := 4) (j := 3) E dX2_speedOfLiving_20 rfl ?_
      obtain ⟨g_1, hf⟩ := gd_some hf
      obtain ⟨q_2, hq_3, hf⟩ := bd_some hf
      refine tt_aald15 (pc := 22) E h2 g_1 dX2_speedOfLiving_22 hq_3 (fun kq_4 => ?_)
      refine tt_astore (pc := 23) (i := 5) (lv' := [(5, .ref (B + q_2)), (1, .int v1), (2, .ref (B + o2)), (3, .int v3), (4, .int v4)]) E dX2_speedOfLiving_23 (Nat.le_of_ble_eq_true rfl) rfl ?_
      refine tt_aload (pc := 25) (i := 5) (j := 0) E dX2_speedOfLiving_25 rfl ?_
      refine tt_getI (pc := 27) E lfX2_52 rfl kq_4 dX2_speedOfLiving_27 ?_
      refine tt_if_le (pc := 30) (tgt := 41) E dX2_speedOfLiving_30 rfl (fun c_8 => ?_) (fun c_8 => ?_)
      · have hf := ip c_8 hf
        obtain ⟨v_5, ev_5, hf⟩ := nm_ex hf
        refine tt_iinc (pc := 41) (i := 4) (j := 4) (lv' := [(4, .int v_5), (5, .ref (B + q_2)), (1, .int v1), (2, .ref (B + o2)), (3, .int v3)]) E dX2_speedOfLiving_41 rfl (ev_5).symm (Nat.le_of_ble_eq_true rfl) rfl ?_
        refine tt_goto (pc := 44) (tgt := 13) E dX2_speedOfLiving_44 rfl ?_
        refine tt_sub [2, 3, 4, 0] (lv' := [(1, .int v1), (2, .ref (B + o2)), (3, .int v3), (4, .int v_5)]) rfl ?_
        exact ih v1 v_5 hf
      · have hf := ine c_8 hf
        refine tt_iload_n (pc := 33) (i := 1) (j := 1) E dX2_speedOfLiving_33 rfl rfl ?_
        refine tt_aload (pc := 34) (i := 5) (j := 0) E dX2_speedOfLiving_34 rfl ?_
        refine tt_getI (pc := 36) E lfX2_55 rfl kq_4 dX2_speedOfLiving_36 ?_
        refine tt_iadd (pc := 39) E dX2_speedOfLiving_39 ?_
        refine tt_nmI hf (fun v_6 hf => ?_)
        refine tt_istore_n (pc := 40) (i := 1) (lv' := [(1, .int v_6), (5, .ref (B + q_2)), (2, .ref (B + o2)), (3, .int v3), (4, .int v4)]) E dX2_speedOfLiving_40 rfl (Nat.le_of_ble_eq_true rfl) rfl ?_
        obtain ⟨v_7, ev_7, hf⟩ := nm_ex hf
        refine tt_iinc (pc := 41) (i := 4) (j := 4) (lv' := [(4, .int v_7), (1, .int v_6), (5, .ref (B + q_2)), (2, .ref (B + o2)), (3, .int v3)]) E dX2_speedOfLiving_41 rfl (ev_7).symm (Nat.le_of_ble_eq_true rfl) rfl ?_
        refine tt_goto (pc := 44) (tgt := 13) E dX2_speedOfLiving_44 rfl ?_
        refine tt_sub [1, 3, 4, 0] (lv' := [(1, .int v_6), (2, .ref (B + o2)), (3, .int v3), (4, .int v_7)]) rfl ?_
        exact ih v_6 v_7 hf
set_option maxHeartbeats 4000000 in
theorem cX2_speedOfLiving_ok {l : Launch} {B : Nat} {D : va_G} {cT : Nat → ClassId} {n : Nat} {adK adV : Nat → Nat} {o0 : Nat} {μ : Mem} {res : Int32} (h0 : isK n o0 1) (hf : fX2_speedOfLiving o0 μ = some res) : MI l yX2_speedOfLiving cX2_speedOfLiving 6 (some .int) rmX2_speedOfLiving B D cT (XW B adK adV) n [.ref (B + o0)] μ (res, μ) := by
  refine tt_ofW mtX2_speedOfLiving.1 (Nat.le_of_ble_eq_true rfl) rfl ?_
  intro p e s m below meth c E0 hr hlk
  have E : EE p s m _ c cX2_speedOfLiving 6 RX2 B D cT (XW B adK adV) := E0
  unfold fX2_speedOfLiving at hf
  refine tt_iconst (pc := 0) (v := 0) E dX2_speedOfLiving_0 ic_0 ?_
  refine tt_istore_n (pc := 1) (i := 1) (lv' := [(1, .int 0), (0, .ref (B + o0))]) E dX2_speedOfLiving_1 rfl (Nat.le_of_ble_eq_true rfl) rfl ?_
  refine tt_aload_n (pc := 2) (i := 0) (j := 1) E dX2_speedOfLiving_2 rfl rfl ?_
  obtain ⟨q_1, hq_2, hf⟩ := bd_some hf
  refine tt_getP (pc := 3) (t := 15) E lfX2_11 rfl rfl h0 dX2_speedOfLiving_3 hq_2 (fun kq_3 => ?_)
  refine tt_astore_n (pc := 6) (i := 2) (lv' := [(2, .ref (B + q_1)), (1, .int 0), (0, .ref (B + o0))]) E dX2_speedOfLiving_6 rfl (Nat.le_of_ble_eq_true rfl) rfl ?_
  refine tt_aload_n (pc := 7) (i := 2) (j := 0) E dX2_speedOfLiving_7 rfl rfl ?_
  refine tt_alen (pc := 8) (v := Int32.ofNat (Ln q_1)) E (k := 15) ⟨(Nat.le_of_ble_eq_true rfl), (Nat.le_of_ble_eq_true rfl)⟩ kq_3 rfl dX2_speedOfLiving_8 ?_
  refine tt_nmI hf (fun v_4 hf => ?_)
  refine tt_istore_n (pc := 9) (i := 3) (lv' := [(3, .int v_4), (2, .ref (B + q_1)), (1, .int 0), (0, .ref (B + o0))]) E dX2_speedOfLiving_9 rfl (Nat.le_of_ble_eq_true rfl) rfl ?_
  refine tt_iconst (pc := 10) (v := 0) E dX2_speedOfLiving_10 ic_0 ?_
  refine tt_istore (pc := 11) (i := 4) (lv' := [(4, .int 0), (3, .int v_4), (2, .ref (B + q_1)), (1, .int 0), (0, .ref (B + o0))]) E dX2_speedOfLiving_11 (Nat.le_of_ble_eq_true rfl) rfl ?_
  refine tt_sub [3, 2, 1, 0] (lv' := [(1, .int 0), (2, .ref (B + q_1)), (3, .int v_4), (4, .int 0)]) rfl ?_
  exact tX2_speedOfLiving_13 E hr hlk kq_3 FU 0 0 hf
set_option maxHeartbeats 4000000 in
theorem tX2_sideLife_14 {p : Program} {l : Launch} {e : Env} {s : State} {m : MethodId} {args : Array Value} {below : List Frame} {meth : Method} {c : Code} {B : Nat} {D : va_G} {cT : Nat → ClassId} {n : Nat} {adK adV : Nat → Nat} {res : Int32} (E : EE p s m args c cX2_sideLife 7 RX2 B D cT (XW B adK adV)) (hr : meth.sig.returnType = some .int) (hlk : meth.locks = false) {v1 : Int32} {o3 : Nat} {v4 : Int32} (h3 : isK n o3 15) {μ : Mem} : ∀ (fu : Nat) (v2 : Int32) (v5 : Int32), zl2 (gX2_sideLife_14 v1 o3 v4 μ) fu v2 v5 = some res → TT p l e rmX2_sideLife s m args below meth c (QI B D cT n below args s (res, μ)) 7 B D cT n 0 0 μ 14 [(1, .int v1), (2, .int v2), (3, .ref (B + o3)), (4, .int v4), (5, .int v5)] [] := by
  intro fu
  induction fu with
  | zero => intro v2 v5 hf; exact absurd hf (fun h => by cases h)
  | succ fu ih =>
    intro v2 v5 hf
    have hf : gX2_sideLife_14 v1 o3 v4 μ (zl2 (gX2_sideLife_14 v1 o3 v4 μ) fu) v2 v5 = some res := hf
    unfold gX2_sideLife_14 at hf
    refine tt_iload (pc := 14) (i := 5) (j := 4) E dX2_sideLife_14 rfl ?_
    refine tt_iload (pc := 16) (i := 4) (j := 3) E dX2_sideLife_16 rfl ?_
    refine tt_icmp_ge (pc := 18) (tgt := 50) E dX2_sideLife_18 rfl (fun c_9 => ?_) (fun c_9 => ?_)
    · have hf := ip c_9 hf
      refine tt_iload_n (pc := 50) (i := 2) (j := 1) E dX2_sideLife_50 rfl rfl ?_
      exact tt_iret (pc := 51) E hr hlk dX2_sideLife_51 (Nat.le_of_ble_eq_true rfl) (Nat.le_of_ble_eq_true rfl) (pv hf)
    · have hf := ine c_9 hf
      refine tt_aload_n (pc := 21) (i := 3) (j := 2) E dX2_sideLife_21 rfl rfl ?_
      refine tt_iload (pc := 22) (i := 5) (j := 4) E dX2_sideLife_22 rfl ?_
      obtain ⟨g_1, hf⟩ := gd_some hf
      obtain ⟨q_2, hq_3, hf⟩ := bd_some hf
      refine tt_aald15 (pc := 24) E h3 g_1 dX2_sideLife_24 hq_3 (fun kq_4 => ?_)
      refine tt_astore (pc := 25) (i := 6) (lv' := [(6, .ref (B + q_2)), (1, .int v1), (2, .int v2), (3, .ref (B + o3)), (4, .int v4), (5, .int v5)]) E dX2_sideLife_25 (Nat.le_of_ble_eq_true rfl) rfl ?_
      refine tt_aload (pc := 27) (i := 6) (j := 0) E dX2_sideLife_27 rfl ?_
      refine tt_getI (pc := 29) E lfX2_58 rfl kq_4 dX2_sideLife_29 ?_
      refine tt_iload_n (pc := 32) (i := 1) (j := 1) E dX2_sideLife_32 rfl rfl ?_
      refine tt_icmp_ne (pc := 33) (tgt := 44) E dX2_sideLife_33 rfl (fun c_8 => ?_) (fun c_8 => ?_)
      · have hf := ine c_8 hf
        obtain ⟨v_5, ev_5, hf⟩ := nm_ex hf
        refine tt_iinc (pc := 44) (i := 5) (j := 5) (lv' := [(5, .int v_5), (6, .ref (B + q_2)), (1, .int v1), (2, .int v2), (3, .ref (B + o3)), (4, .int v4)]) E dX2_sideLife_44 rfl (ev_5).symm (Nat.le_of_ble_eq_true rfl) rfl ?_
        refine tt_goto (pc := 47) (tgt := 14) E dX2_sideLife_47 rfl ?_
        refine tt_sub [2, 3, 4, 5, 0] (lv' := [(1, .int v1), (2, .int v2), (3, .ref (B + o3)), (4, .int v4), (5, .int v_5)]) rfl ?_
        exact ih v2 v_5 hf
      · have hf := ip c_8 hf
        refine tt_iload_n (pc := 36) (i := 2) (j := 2) E dX2_sideLife_36 rfl rfl ?_
        refine tt_aload (pc := 37) (i := 6) (j := 0) E dX2_sideLife_37 rfl ?_
        refine tt_getI (pc := 39) E lfX2_52 rfl kq_4 dX2_sideLife_39 ?_
        refine tt_iadd (pc := 42) E dX2_sideLife_42 ?_
        refine tt_nmI hf (fun v_6 hf => ?_)
        refine tt_istore_n (pc := 43) (i := 2) (lv' := [(2, .int v_6), (6, .ref (B + q_2)), (1, .int v1), (3, .ref (B + o3)), (4, .int v4), (5, .int v5)]) E dX2_sideLife_43 rfl (Nat.le_of_ble_eq_true rfl) rfl ?_
        obtain ⟨v_7, ev_7, hf⟩ := nm_ex hf
        refine tt_iinc (pc := 44) (i := 5) (j := 5) (lv' := [(5, .int v_7), (2, .int v_6), (6, .ref (B + q_2)), (1, .int v1), (3, .ref (B + o3)), (4, .int v4)]) E dX2_sideLife_44 rfl (ev_7).symm (Nat.le_of_ble_eq_true rfl) rfl ?_
        refine tt_goto (pc := 47) (tgt := 14) E dX2_sideLife_47 rfl ?_
        refine tt_sub [3, 1, 4, 5, 0] (lv' := [(1, .int v1), (2, .int v_6), (3, .ref (B + o3)), (4, .int v4), (5, .int v_7)]) rfl ?_
        exact ih v_6 v_7 hf
set_option maxHeartbeats 4000000 in
theorem cX2_sideLife_ok {l : Launch} {B : Nat} {D : va_G} {cT : Nat → ClassId} {n : Nat} {adK adV : Nat → Nat} {o0 : Nat} {v1 : Int32} {μ : Mem} {res : Int32} (h0 : isK n o0 1) (hf : fX2_sideLife o0 v1 μ = some res) : MI l yX2_sideLife cX2_sideLife 7 (some .int) rmX2_sideLife B D cT (XW B adK adV) n [.ref (B + o0), .int v1] μ (res, μ) := by
  refine tt_ofW mtX2_sideLife.1 (Nat.le_of_ble_eq_true rfl) rfl ?_
  intro p e s m below meth c E0 hr hlk
  have E : EE p s m _ c cX2_sideLife 7 RX2 B D cT (XW B adK adV) := E0
  unfold fX2_sideLife at hf
  refine tt_iconst (pc := 0) (v := 0) E dX2_sideLife_0 ic_0 ?_
  refine tt_istore_n (pc := 1) (i := 2) (lv' := [(2, .int 0), (0, .ref (B + o0)), (1, .int v1)]) E dX2_sideLife_1 rfl (Nat.le_of_ble_eq_true rfl) rfl ?_
  refine tt_aload_n (pc := 2) (i := 0) (j := 1) E dX2_sideLife_2 rfl rfl ?_
  obtain ⟨q_1, hq_2, hf⟩ := bd_some hf
  refine tt_getP (pc := 3) (t := 15) E lfX2_11 rfl rfl h0 dX2_sideLife_3 hq_2 (fun kq_3 => ?_)
  refine tt_astore_n (pc := 6) (i := 3) (lv' := [(3, .ref (B + q_1)), (2, .int 0), (0, .ref (B + o0)), (1, .int v1)]) E dX2_sideLife_6 rfl (Nat.le_of_ble_eq_true rfl) rfl ?_
  refine tt_aload_n (pc := 7) (i := 3) (j := 0) E dX2_sideLife_7 rfl rfl ?_
  refine tt_alen (pc := 8) (v := Int32.ofNat (Ln q_1)) E (k := 15) ⟨(Nat.le_of_ble_eq_true rfl), (Nat.le_of_ble_eq_true rfl)⟩ kq_3 rfl dX2_sideLife_8 ?_
  refine tt_nmI hf (fun v_4 hf => ?_)
  refine tt_istore (pc := 9) (i := 4) (lv' := [(4, .int v_4), (3, .ref (B + q_1)), (2, .int 0), (0, .ref (B + o0)), (1, .int v1)]) E dX2_sideLife_9 (Nat.le_of_ble_eq_true rfl) rfl ?_
  refine tt_iconst (pc := 11) (v := 0) E dX2_sideLife_11 ic_0 ?_
  refine tt_istore (pc := 12) (i := 5) (lv' := [(5, .int 0), (4, .int v_4), (3, .ref (B + q_1)), (2, .int 0), (0, .ref (B + o0)), (1, .int v1)]) E dX2_sideLife_12 (Nat.le_of_ble_eq_true rfl) rfl ?_
  refine tt_sub [5, 3, 2, 1, 0] (lv' := [(1, .int v1), (2, .int 0), (3, .ref (B + q_1)), (4, .int v_4), (5, .int 0)]) rfl ?_
  exact tX2_sideLife_14 E hr hlk kq_3 FU 0 0 hf
set_option maxHeartbeats 4000000 in
theorem cX2_wonBy_ok {l : Launch} {B : Nat} {D : va_G} {cT : Nat → ClassId} {n : Nat} {adK adV : Nat → Nat} {o0 : Nat} {μ : Mem} {res : Int32} (h0 : isK n o0 1) (hf : fX2_wonBy o0 μ = some res) : MI l yX2_wonBy cX2_wonBy 1 (some .int) rmX2_wonBy B D cT (XW B adK adV) n [.ref (B + o0)] μ (res, μ) := by
  refine tt_ofW mtX2_wonBy.1 (Nat.le_of_ble_eq_true rfl) rfl ?_
  intro p e s m below meth c E0 hr hlk
  have E : EE p s m _ c cX2_wonBy 1 RX2 B D cT (XW B adK adV) := E0
  unfold fX2_wonBy at hf
  refine tt_aload_n (pc := 0) (i := 0) (j := 0) E dX2_wonBy_0 rfl rfl ?_
  refine tt_iconst (pc := 1) (v := 0) E dX2_wonBy_1 ic_0 ?_
  obtain ⟨r_1, hr_2, hf⟩ := bd_some hf
  have hc_3 := cX2_lives_ok (l := l) (B := B) (D := D) (cT := cT) (n := n) (adK := adK) (adV := adV) h0 hr_2
  refine tt_cZ (pc := 2) (tt_vi E lmX2_61 mtX2_lives hc_3 h0 rfl rfl (Nat.le_of_ble_eq_true rfl) ⟨(Nat.le_of_ble_eq_true rfl), (Nat.le_of_ble_eq_true rfl)⟩ ⟨(Nat.le_of_ble_eq_true rfl), (Nat.le_of_ble_eq_true rfl)⟩ dX2_wonBy_2) (fun z_4 => ?_)
  refine tt_aload_n (pc := 5) (i := 0) (j := 0) E dX2_wonBy_5 rfl rfl ?_
  refine tt_iconst (pc := 6) (v := 1) E dX2_wonBy_6 ic_1 ?_
  obtain ⟨r_5, hr_6, hf⟩ := bd_some hf
  have hc_7 := cX2_lives_ok (l := l) (B := B) (D := D) (cT := cT) (n := n) (adK := adK) (adV := adV) h0 hr_6
  refine tt_cZ (pc := 7) (tt_vi E lmX2_61 mtX2_lives hc_7 h0 rfl rfl (Nat.le_of_ble_eq_true rfl) ⟨(Nat.le_of_ble_eq_true rfl), (Nat.le_of_ble_eq_true rfl)⟩ ⟨(Nat.le_of_ble_eq_true rfl), (Nat.le_of_ble_eq_true rfl)⟩ dX2_wonBy_7) (fun z_8 => ?_)
  refine tt_icmp_ne (pc := 10) (tgt := 15) E dX2_wonBy_10 rfl (fun c_14 => ?_) (fun c_14 => ?_)
  · have hf := ine c_14 hf
    refine tt_aload_n (pc := 15) (i := 0) (j := 0) E dX2_wonBy_15 rfl rfl ?_
    refine tt_iconst (pc := 16) (v := 0) E dX2_wonBy_16 ic_0 ?_
    obtain ⟨r_9, hr_10, hf⟩ := bd_some hf
    have hc_11 := cX2_lives_ok (l := l) (B := B) (D := D) (cT := cT) (n := n) (adK := adK) (adV := adV) h0 hr_10
    refine tt_cZ (pc := 17) (tt_vi E lmX2_61 mtX2_lives hc_11 h0 rfl rfl (Nat.le_of_ble_eq_true rfl) ⟨(Nat.le_of_ble_eq_true rfl), (Nat.le_of_ble_eq_true rfl)⟩ ⟨(Nat.le_of_ble_eq_true rfl), (Nat.le_of_ble_eq_true rfl)⟩ dX2_wonBy_17) (fun z_12 => ?_)
    refine tt_if_eq (pc := 20) (tgt := 27) E dX2_wonBy_20 rfl (fun c_13 => ?_) (fun c_13 => ?_)
    · have hf := ip c_13 hf
      refine tt_iconst (pc := 27) (v := 1) E dX2_wonBy_27 ic_1 ?_
      exact tt_iret (pc := 28) E hr hlk dX2_wonBy_28 (Nat.le_of_ble_eq_true rfl) (Nat.le_of_ble_eq_true rfl) (pv hf)
    · have hf := ine c_13 hf
      refine tt_iconst (pc := 23) (v := 0) E dX2_wonBy_23 ic_0 ?_
      refine tt_goto (pc := 24) (tgt := 28) E dX2_wonBy_24 rfl ?_
      exact tt_iret (pc := 28) E hr hlk dX2_wonBy_28 (Nat.le_of_ble_eq_true rfl) (Nat.le_of_ble_eq_true rfl) (pv hf)
  · have hf := ip c_14 hf
    refine tt_iconst (pc := 13) (v := (-1)) E dX2_wonBy_13 ic_m1 ?_
    exact tt_iret (pc := 14) E hr hlk dX2_wonBy_14 (Nat.le_of_ble_eq_true rfl) (Nat.le_of_ble_eq_true rfl) (pv hf)
set_option maxHeartbeats 4000000 in
theorem cX2_isAhead_ok {l : Launch} {B : Nat} {D : va_G} {cT : Nat → ClassId} {n : Nat} {adK adV : Nat → Nat} {o0 : Nat} {o1 : Nat} {o2 : Nat} {μ : Mem} {res : Int32} (h0 : isK n o0 1) (h1 : isK n o1 2) (h2 : isK n o2 2) (hf : fX2_isAhead o0 o1 o2 μ = some res) : MZ l yX2_isAhead cX2_isAhead 5 (some .boolean) rmX2_isAhead B D cT (XW B adK adV) n [.ref (B + o0), .ref (B + o1), .ref (B + o2)] μ (res, μ) := by
  refine tt_ofW mtX2_isAhead.1 (Nat.le_of_ble_eq_true rfl) rfl ?_
  intro p e s m below meth c E0 hr hlk
  have E : EE p s m _ c cX2_isAhead 5 RX2 B D cT (XW B adK adV) := E0
  unfold fX2_isAhead at hf
  refine tt_aload_n (pc := 0) (i := 1) (j := 1) E dX2_isAhead_0 rfl rfl ?_
  refine tt_aload_n (pc := 1) (i := 0) (j := 0) E dX2_isAhead_1 rfl rfl ?_
  refine tt_getI (pc := 2) E lfX2_28 rfl h0 dX2_isAhead_2 ?_
  obtain ⟨r_1, hr_2, hf⟩ := bd_some hf
  have hc_3 := cX3_ticksLeft_ok (l := l) (B := B) (D := D) (cT := cT) (n := n) (adK := adK) (adV := adV) h1 hr_2
  refine tt_cI (pc := 5) (tt_vi E lmX2_73 mtX3_ticksLeft hc_3 h1 rfl rfl (Nat.le_of_ble_eq_true rfl) ⟨(Nat.le_of_ble_eq_true rfl), (Nat.le_of_ble_eq_true rfl)⟩ ⟨(Nat.le_of_ble_eq_true rfl), (Nat.le_of_ble_eq_true rfl)⟩ dX2_isAhead_5) ?_
  refine tt_istore_n (pc := 8) (i := 3) (lv' := [(3, .int r_1), (0, .ref (B + o0)), (1, .ref (B + o1)), (2, .ref (B + o2))]) E dX2_isAhead_8 rfl (Nat.le_of_ble_eq_true rfl) rfl ?_
  refine tt_aload_n (pc := 9) (i := 2) (j := 3) E dX2_isAhead_9 rfl rfl ?_
  refine tt_aload_n (pc := 10) (i := 0) (j := 1) E dX2_isAhead_10 rfl rfl ?_
  refine tt_getI (pc := 11) E lfX2_28 rfl h0 dX2_isAhead_11 ?_
  obtain ⟨r_4, hr_5, hf⟩ := bd_some hf
  have hc_6 := cX3_ticksLeft_ok (l := l) (B := B) (D := D) (cT := cT) (n := n) (adK := adK) (adV := adV) h2 hr_5
  refine tt_cI (pc := 14) (tt_vi E lmX2_73 mtX3_ticksLeft hc_6 h2 rfl rfl (Nat.le_of_ble_eq_true rfl) ⟨(Nat.le_of_ble_eq_true rfl), (Nat.le_of_ble_eq_true rfl)⟩ ⟨(Nat.le_of_ble_eq_true rfl), (Nat.le_of_ble_eq_true rfl)⟩ dX2_isAhead_14) ?_
  refine tt_istore (pc := 17) (i := 4) (lv' := [(4, .int r_4), (3, .int r_1), (0, .ref (B + o0)), (1, .ref (B + o1)), (2, .ref (B + o2))]) E dX2_isAhead_17 (Nat.le_of_ble_eq_true rfl) rfl ?_
  refine tt_iload_n (pc := 19) (i := 3) (j := 1) E dX2_isAhead_19 rfl rfl ?_
  refine tt_iload (pc := 20) (i := 4) (j := 0) E dX2_isAhead_20 rfl ?_
  refine tt_icmp_eq (pc := 22) (tgt := 37) E dX2_isAhead_22 rfl (fun c_11 => ?_) (fun c_11 => ?_)
  · have hf := ip c_11 hf
    refine tt_aload_n (pc := 37) (i := 1) (j := 3) E dX2_isAhead_37 rfl rfl ?_
    refine tt_getI (pc := 38) E lfX2_77 rfl h1 dX2_isAhead_38 ?_
    refine tt_aload_n (pc := 41) (i := 2) (j := 4) E dX2_isAhead_41 rfl rfl ?_
    refine tt_getI (pc := 42) E lfX2_77 rfl h2 dX2_isAhead_42 ?_
    refine tt_icmp_eq (pc := 45) (tgt := 67) E dX2_isAhead_45 rfl (fun c_9 => ?_) (fun c_9 => ?_)
    · have hf := ip c_9 hf
      refine tt_aload_n (pc := 67) (i := 1) (j := 3) E dX2_isAhead_67 rfl rfl ?_
      refine tt_getI (pc := 68) E lfX2_41 rfl h1 dX2_isAhead_68 ?_
      refine tt_aload_n (pc := 71) (i := 2) (j := 4) E dX2_isAhead_71 rfl rfl ?_
      refine tt_getI (pc := 72) E lfX2_41 rfl h2 dX2_isAhead_72 ?_
      refine tt_icmp_ge (pc := 75) (tgt := 82) E dX2_isAhead_75 rfl (fun c_7 => ?_) (fun c_7 => ?_)
      · have hf := ip c_7 hf
        refine tt_iconst (pc := 82) (v := 0) E dX2_isAhead_82 ic_0 ?_
        exact tt_zret (pc := 83) E ((Or.inl rfl)) hr hlk dX2_isAhead_83 (Nat.le_of_ble_eq_true rfl) (Nat.le_of_ble_eq_true rfl) (pv hf)
      · have hf := ine c_7 hf
        refine tt_iconst (pc := 78) (v := 1) E dX2_isAhead_78 ic_1 ?_
        refine tt_goto (pc := 79) (tgt := 83) E dX2_isAhead_79 rfl ?_
        exact tt_zret (pc := 83) E ((Or.inr rfl)) hr hlk dX2_isAhead_83 (Nat.le_of_ble_eq_true rfl) (Nat.le_of_ble_eq_true rfl) (pv hf)
    · have hf := ine c_9 hf
      refine tt_aload_n (pc := 48) (i := 1) (j := 3) E dX2_isAhead_48 rfl rfl ?_
      refine tt_getI (pc := 49) E lfX2_77 rfl h1 dX2_isAhead_49 ?_
      refine tt_aload_n (pc := 52) (i := 2) (j := 4) E dX2_isAhead_52 rfl rfl ?_
      refine tt_getI (pc := 53) E lfX2_77 rfl h2 dX2_isAhead_53 ?_
      refine tt_icmp_le (pc := 56) (tgt := 63) E dX2_isAhead_56 rfl (fun c_8 => ?_) (fun c_8 => ?_)
      · have hf := ip c_8 hf
        refine tt_iconst (pc := 63) (v := 0) E dX2_isAhead_63 ic_0 ?_
        refine tt_goto (pc := 64) (tgt := 83) E dX2_isAhead_64 rfl ?_
        exact tt_zret (pc := 83) E ((Or.inl rfl)) hr hlk dX2_isAhead_83 (Nat.le_of_ble_eq_true rfl) (Nat.le_of_ble_eq_true rfl) (pv hf)
      · have hf := ine c_8 hf
        refine tt_iconst (pc := 59) (v := 1) E dX2_isAhead_59 ic_1 ?_
        refine tt_goto (pc := 60) (tgt := 83) E dX2_isAhead_60 rfl ?_
        exact tt_zret (pc := 83) E ((Or.inr rfl)) hr hlk dX2_isAhead_83 (Nat.le_of_ble_eq_true rfl) (Nat.le_of_ble_eq_true rfl) (pv hf)
  · have hf := ine c_11 hf
    refine tt_iload_n (pc := 25) (i := 3) (j := 1) E dX2_isAhead_25 rfl rfl ?_
    refine tt_iload (pc := 26) (i := 4) (j := 0) E dX2_isAhead_26 rfl ?_
    refine tt_icmp_ge (pc := 28) (tgt := 35) E dX2_isAhead_28 rfl (fun c_10 => ?_) (fun c_10 => ?_)
    · have hf := ip c_10 hf
      refine tt_iconst (pc := 35) (v := 0) E dX2_isAhead_35 ic_0 ?_
      exact tt_zret (pc := 36) E ((Or.inl rfl)) hr hlk dX2_isAhead_36 (Nat.le_of_ble_eq_true rfl) (Nat.le_of_ble_eq_true rfl) (pv hf)
    · have hf := ine c_10 hf
      refine tt_iconst (pc := 31) (v := 1) E dX2_isAhead_31 ic_1 ?_
      refine tt_goto (pc := 32) (tgt := 36) E dX2_isAhead_32 rfl ?_
      exact tt_zret (pc := 36) E ((Or.inr rfl)) hr hlk dX2_isAhead_36 (Nat.le_of_ble_eq_true rfl) (Nat.le_of_ble_eq_true rfl) (pv hf)
set_option maxHeartbeats 4000000 in
theorem tX2_aheadOf_14 {p : Program} {l : Launch} {e : Env} {s : State} {m : MethodId} {args : Array Value} {below : List Frame} {meth : Method} {c : Code} {B : Nat} {D : va_G} {cT : Nat → ClassId} {n : Nat} {adK adV : Nat → Nat} {res : Int32} (E : EE p s m args c cX2_aheadOf 7 RX2 B D cT (XW B adK adV)) (hr : meth.sig.returnType = some .int) (hlk : meth.locks = false) {o0 : Nat} {o1 : Nat} {o3 : Nat} {v4 : Int32} (h0 : isK n o0 1) (h1 : isK n o1 2) (h3 : isK n o3 15) {μ : Mem} : ∀ (fu : Nat) (v2 : Int32) (v5 : Int32), zl2 (gX2_aheadOf_14 o0 o1 o3 v4 μ) fu v2 v5 = some res → TT p l e rmX2_aheadOf s m args below meth c (QI B D cT n below args s (res, μ)) 7 B D cT n 0 0 μ 14 [(0, .ref (B + o0)), (1, .ref (B + o1)), (2, .int v2), (3, .ref (B + o3)), (4, .int v4), (5, .int v5)] [] := by
  intro fu
  induction fu with
  | zero => intro v2 v5 hf; exact absurd hf (fun h => by cases h)
  | succ fu ih =>
    intro v2 v5 hf
    have hf : gX2_aheadOf_14 o0 o1 o3 v4 μ (zl2 (gX2_aheadOf_14 o0 o1 o3 v4 μ) fu) v2 v5 = some res := hf
    unfold gX2_aheadOf_14 at hf
    refine tt_iload (pc := 14) (i := 5) (j := 5) E dX2_aheadOf_14 rfl ?_
    refine tt_iload (pc := 16) (i := 4) (j := 4) E dX2_aheadOf_16 rfl ?_
    refine tt_icmp_ge (pc := 18) (tgt := 54) E dX2_aheadOf_18 rfl (fun c_15 => ?_) (fun c_15 => ?_)
    · have hf := ip c_15 hf
      refine tt_iload_n (pc := 54) (i := 2) (j := 2) E dX2_aheadOf_54 rfl rfl ?_
      exact tt_iret (pc := 55) E hr hlk dX2_aheadOf_55 (Nat.le_of_ble_eq_true rfl) (Nat.le_of_ble_eq_true rfl) (pv hf)
    · have hf := ine c_15 hf
      refine tt_aload_n (pc := 21) (i := 3) (j := 3) E dX2_aheadOf_21 rfl rfl ?_
      refine tt_iload (pc := 22) (i := 5) (j := 5) E dX2_aheadOf_22 rfl ?_
      obtain ⟨g_1, hf⟩ := gd_some hf
      obtain ⟨q_2, hq_3, hf⟩ := bd_some hf
      refine tt_aald15 (pc := 24) E h3 g_1 dX2_aheadOf_24 hq_3 (fun kq_4 => ?_)
      refine tt_astore (pc := 25) (i := 6) (lv' := [(6, .ref (B + q_2)), (0, .ref (B + o0)), (1, .ref (B + o1)), (2, .int v2), (3, .ref (B + o3)), (4, .int v4), (5, .int v5)]) E dX2_aheadOf_25 (Nat.le_of_ble_eq_true rfl) rfl ?_
      refine tt_aload (pc := 27) (i := 6) (j := 0) E dX2_aheadOf_27 rfl ?_
      refine tt_getI (pc := 29) E lfX2_52 rfl kq_4 dX2_aheadOf_29 ?_
      refine tt_if_le (pc := 32) (tgt := 48) E dX2_aheadOf_32 rfl (fun c_14 => ?_) (fun c_14 => ?_)
      · have hf := ip c_14 hf
        obtain ⟨v_5, ev_5, hf⟩ := nm_ex hf
        refine tt_iinc (pc := 48) (i := 5) (j := 6) (lv' := [(5, .int v_5), (6, .ref (B + q_2)), (0, .ref (B + o0)), (1, .ref (B + o1)), (2, .int v2), (3, .ref (B + o3)), (4, .int v4)]) E dX2_aheadOf_48 rfl (ev_5).symm (Nat.le_of_ble_eq_true rfl) rfl ?_
        refine tt_goto (pc := 51) (tgt := 14) E dX2_aheadOf_51 rfl ?_
        refine tt_sub [2, 3, 4, 5, 6, 0] (lv' := [(0, .ref (B + o0)), (1, .ref (B + o1)), (2, .int v2), (3, .ref (B + o3)), (4, .int v4), (5, .int v_5)]) rfl ?_
        exact ih v2 v_5 hf
      · have hf := ine c_14 hf
        refine tt_aload_n (pc := 35) (i := 0) (j := 1) E dX2_aheadOf_35 rfl rfl ?_
        refine tt_aload (pc := 36) (i := 6) (j := 0) E dX2_aheadOf_36 rfl ?_
        refine tt_aload_n (pc := 38) (i := 1) (j := 2) E dX2_aheadOf_38 rfl rfl ?_
        obtain ⟨r_6, hr_7, hf⟩ := bd_some hf
        have hc_8 := cX2_isAhead_ok (l := l) (B := B) (D := D) (cT := cT) (n := n) (adK := adK) (adV := adV) h0 kq_4 h1 hr_7
        refine tt_cZ (pc := 39) (tt_vi E lmX2_69 mtX2_isAhead hc_8 h0 rfl rfl (Nat.le_of_ble_eq_true rfl) ⟨(Nat.le_of_ble_eq_true rfl), (Nat.le_of_ble_eq_true rfl)⟩ ⟨(Nat.le_of_ble_eq_true rfl), (Nat.le_of_ble_eq_true rfl)⟩ dX2_aheadOf_39) (fun z_9 => ?_)
        refine tt_if_eq (pc := 42) (tgt := 48) E dX2_aheadOf_42 rfl (fun c_13 => ?_) (fun c_13 => ?_)
        · have hf := ip c_13 hf
          obtain ⟨v_10, ev_10, hf⟩ := nm_ex hf
          refine tt_iinc (pc := 48) (i := 5) (j := 6) (lv' := [(5, .int v_10), (6, .ref (B + q_2)), (0, .ref (B + o0)), (1, .ref (B + o1)), (2, .int v2), (3, .ref (B + o3)), (4, .int v4)]) E dX2_aheadOf_48 rfl (ev_10).symm (Nat.le_of_ble_eq_true rfl) rfl ?_
          refine tt_goto (pc := 51) (tgt := 14) E dX2_aheadOf_51 rfl ?_
          refine tt_sub [2, 3, 4, 5, 6, 0] (lv' := [(0, .ref (B + o0)), (1, .ref (B + o1)), (2, .int v2), (3, .ref (B + o3)), (4, .int v4), (5, .int v_10)]) rfl ?_
          exact ih v2 v_10 hf
        · have hf := ine c_13 hf
          obtain ⟨v_11, ev_11, hf⟩ := nm_ex hf
          refine tt_iinc (pc := 45) (i := 2) (j := 3) (lv' := [(2, .int v_11), (6, .ref (B + q_2)), (0, .ref (B + o0)), (1, .ref (B + o1)), (3, .ref (B + o3)), (4, .int v4), (5, .int v5)]) E dX2_aheadOf_45 rfl (ev_11).symm (Nat.le_of_ble_eq_true rfl) rfl ?_
          obtain ⟨v_12, ev_12, hf⟩ := nm_ex hf
          refine tt_iinc (pc := 48) (i := 5) (j := 6) (lv' := [(5, .int v_12), (2, .int v_11), (6, .ref (B + q_2)), (0, .ref (B + o0)), (1, .ref (B + o1)), (3, .ref (B + o3)), (4, .int v4)]) E dX2_aheadOf_48 rfl (ev_12).symm (Nat.le_of_ble_eq_true rfl) rfl ?_
          refine tt_goto (pc := 51) (tgt := 14) E dX2_aheadOf_51 rfl ?_
          refine tt_sub [3, 4, 1, 5, 6, 0] (lv' := [(0, .ref (B + o0)), (1, .ref (B + o1)), (2, .int v_11), (3, .ref (B + o3)), (4, .int v4), (5, .int v_12)]) rfl ?_
          exact ih v_11 v_12 hf
set_option maxHeartbeats 4000000 in
theorem cX2_aheadOf_ok {l : Launch} {B : Nat} {D : va_G} {cT : Nat → ClassId} {n : Nat} {adK adV : Nat → Nat} {o0 : Nat} {o1 : Nat} {μ : Mem} {res : Int32} (h0 : isK n o0 1) (h1 : isK n o1 2) (hf : fX2_aheadOf o0 o1 μ = some res) : MI l yX2_aheadOf cX2_aheadOf 7 (some .int) rmX2_aheadOf B D cT (XW B adK adV) n [.ref (B + o0), .ref (B + o1)] μ (res, μ) := by
  refine tt_ofW mtX2_aheadOf.1 (Nat.le_of_ble_eq_true rfl) rfl ?_
  intro p e s m below meth c E0 hr hlk
  have E : EE p s m _ c cX2_aheadOf 7 RX2 B D cT (XW B adK adV) := E0
  unfold fX2_aheadOf at hf
  refine tt_iconst (pc := 0) (v := 0) E dX2_aheadOf_0 ic_0 ?_
  refine tt_istore_n (pc := 1) (i := 2) (lv' := [(2, .int 0), (0, .ref (B + o0)), (1, .ref (B + o1))]) E dX2_aheadOf_1 rfl (Nat.le_of_ble_eq_true rfl) rfl ?_
  refine tt_aload_n (pc := 2) (i := 0) (j := 1) E dX2_aheadOf_2 rfl rfl ?_
  obtain ⟨q_1, hq_2, hf⟩ := bd_some hf
  refine tt_getP (pc := 3) (t := 15) E lfX2_11 rfl rfl h0 dX2_aheadOf_3 hq_2 (fun kq_3 => ?_)
  refine tt_astore_n (pc := 6) (i := 3) (lv' := [(3, .ref (B + q_1)), (2, .int 0), (0, .ref (B + o0)), (1, .ref (B + o1))]) E dX2_aheadOf_6 rfl (Nat.le_of_ble_eq_true rfl) rfl ?_
  refine tt_aload_n (pc := 7) (i := 3) (j := 0) E dX2_aheadOf_7 rfl rfl ?_
  refine tt_alen (pc := 8) (v := Int32.ofNat (Ln q_1)) E (k := 15) ⟨(Nat.le_of_ble_eq_true rfl), (Nat.le_of_ble_eq_true rfl)⟩ kq_3 rfl dX2_aheadOf_8 ?_
  refine tt_nmI hf (fun v_4 hf => ?_)
  refine tt_istore (pc := 9) (i := 4) (lv' := [(4, .int v_4), (3, .ref (B + q_1)), (2, .int 0), (0, .ref (B + o0)), (1, .ref (B + o1))]) E dX2_aheadOf_9 (Nat.le_of_ble_eq_true rfl) rfl ?_
  refine tt_iconst (pc := 11) (v := 0) E dX2_aheadOf_11 ic_0 ?_
  refine tt_istore (pc := 12) (i := 5) (lv' := [(5, .int 0), (4, .int v_4), (3, .ref (B + q_1)), (2, .int 0), (0, .ref (B + o0)), (1, .ref (B + o1))]) E dX2_aheadOf_12 (Nat.le_of_ble_eq_true rfl) rfl ?_
  refine tt_sub [4, 5, 3, 2, 1, 0] (lv' := [(0, .ref (B + o0)), (1, .ref (B + o1)), (2, .int 0), (3, .ref (B + q_1)), (4, .int v_4), (5, .int 0)]) rfl ?_
  exact tX2_aheadOf_14 E hr hlk h0 h1 kq_3 FU 0 0 hf
set_option maxHeartbeats 4000000 in
theorem tX2_inRow_11 {p : Program} {l : Launch} {e : Env} {s : State} {m : MethodId} {args : Array Value} {below : List Frame} {meth : Method} {c : Code} {B : Nat} {D : va_G} {cT : Nat → ClassId} {n : Nat} {adK adV : Nat → Nat} {res : Nat} (E : EE p s m args c cX2_inRow 6 RX2 B D cT (XW B adK adV)) (hr : meth.sig.returnType = some (.object "TurnWheel$Fighter")) (hlk : meth.locks = false) {o0 : Nat} {v1 : Int32} {o2 : Nat} {v3 : Int32} (h0 : isK n o0 1) (h2 : isK n o2 15) {μ : Mem} : ∀ (fu : Nat) (v4 : Int32), zl1 (gX2_inRow_11 o0 v1 o2 v3 μ) fu v4 = some res → TT p l e rmX2_inRow s m args below meth c (QP 2 B D cT n below args s (res, μ)) 6 B D cT n 0 0 μ 11 [(0, .ref (B + o0)), (1, .int v1), (2, .ref (B + o2)), (3, .int v3), (4, .int v4)] [] := by
  intro fu
  induction fu with
  | zero => intro v4 hf; exact absurd hf (fun h => by cases h)
  | succ fu ih =>
    intro v4 hf
    have hf : gX2_inRow_11 o0 v1 o2 v3 μ (zl1 (gX2_inRow_11 o0 v1 o2 v3 μ) fu) v4 = some res := hf
    unfold gX2_inRow_11 at hf
    refine tt_iload (pc := 11) (i := 4) (j := 4) E dX2_inRow_11 rfl ?_
    refine tt_iload_n (pc := 13) (i := 3) (j := 3) E dX2_inRow_13 rfl rfl ?_
    refine tt_icmp_ge (pc := 14) (tgt := 50) E dX2_inRow_14 rfl (fun c_15 => ?_) (fun c_15 => ?_)
    · have hf := ip c_15 hf
      refine tt_aload_n (pc := 50) (i := 0) (j := 0) E dX2_inRow_50 rfl rfl ?_
      obtain ⟨q_1, hq_2, hf⟩ := bd_some hf
      refine tt_getP (pc := 51) (t := 2) E lfX2_20 rfl rfl h0 dX2_inRow_51 hq_2 (fun kq_3 => ?_)
      exact tt_aret (pc := 54) E kq_3 hr hlk dX2_inRow_54 (Nat.le_of_ble_eq_true rfl) (Nat.le_of_ble_eq_true rfl) (pv hf)
    · have hf := ine c_15 hf
      refine tt_aload_n (pc := 17) (i := 2) (j := 2) E dX2_inRow_17 rfl rfl ?_
      refine tt_iload (pc := 18) (i := 4) (j := 4) E dX2_inRow_18 rfl ?_
      obtain ⟨g_4, hf⟩ := gd_some hf
      obtain ⟨q_5, hq_6, hf⟩ := bd_some hf
      refine tt_aald15 (pc := 20) E h2 g_4 dX2_inRow_20 hq_6 (fun kq_7 => ?_)
      refine tt_astore (pc := 21) (i := 5) (lv' := [(5, .ref (B + q_5)), (0, .ref (B + o0)), (1, .int v1), (2, .ref (B + o2)), (3, .int v3), (4, .int v4)]) E dX2_inRow_21 (Nat.le_of_ble_eq_true rfl) rfl ?_
      refine tt_aload (pc := 23) (i := 5) (j := 0) E dX2_inRow_23 rfl ?_
      refine tt_getI (pc := 25) E lfX2_52 rfl kq_7 dX2_inRow_25 ?_
      refine tt_if_le (pc := 28) (tgt := 44) E dX2_inRow_28 rfl (fun c_14 => ?_) (fun c_14 => ?_)
      · have hf := ip c_14 hf
        obtain ⟨v_8, ev_8, hf⟩ := nm_ex hf
        refine tt_iinc (pc := 44) (i := 4) (j := 5) (lv' := [(4, .int v_8), (5, .ref (B + q_5)), (0, .ref (B + o0)), (1, .int v1), (2, .ref (B + o2)), (3, .int v3)]) E dX2_inRow_44 rfl (ev_8).symm (Nat.le_of_ble_eq_true rfl) rfl ?_
        refine tt_goto (pc := 47) (tgt := 11) E dX2_inRow_47 rfl ?_
        refine tt_sub [2, 3, 4, 5, 0] (lv' := [(0, .ref (B + o0)), (1, .int v1), (2, .ref (B + o2)), (3, .int v3), (4, .int v_8)]) rfl ?_
        exact ih v_8 hf
      · have hf := ine c_14 hf
        refine tt_aload_n (pc := 31) (i := 0) (j := 1) E dX2_inRow_31 rfl rfl ?_
        refine tt_aload (pc := 32) (i := 5) (j := 0) E dX2_inRow_32 rfl ?_
        obtain ⟨r_9, hr_10, hf⟩ := bd_some hf
        have hc_11 := cX2_aheadOf_ok (l := l) (B := B) (D := D) (cT := cT) (n := n) (adK := adK) (adV := adV) h0 kq_7 hr_10
        refine tt_cI (pc := 34) (tt_vi E lmX2_65 mtX2_aheadOf hc_11 h0 rfl rfl (Nat.le_of_ble_eq_true rfl) ⟨(Nat.le_of_ble_eq_true rfl), (Nat.le_of_ble_eq_true rfl)⟩ ⟨(Nat.le_of_ble_eq_true rfl), (Nat.le_of_ble_eq_true rfl)⟩ dX2_inRow_34) ?_
        refine tt_iload_n (pc := 37) (i := 1) (j := 2) E dX2_inRow_37 rfl rfl ?_
        refine tt_icmp_ne (pc := 38) (tgt := 44) E dX2_inRow_38 rfl (fun c_13 => ?_) (fun c_13 => ?_)
        · have hf := ine c_13 hf
          obtain ⟨v_12, ev_12, hf⟩ := nm_ex hf
          refine tt_iinc (pc := 44) (i := 4) (j := 5) (lv' := [(4, .int v_12), (5, .ref (B + q_5)), (0, .ref (B + o0)), (1, .int v1), (2, .ref (B + o2)), (3, .int v3)]) E dX2_inRow_44 rfl (ev_12).symm (Nat.le_of_ble_eq_true rfl) rfl ?_
          refine tt_goto (pc := 47) (tgt := 11) E dX2_inRow_47 rfl ?_
          refine tt_sub [2, 3, 4, 5, 0] (lv' := [(0, .ref (B + o0)), (1, .int v1), (2, .ref (B + o2)), (3, .int v3), (4, .int v_12)]) rfl ?_
          exact ih v_12 hf
        · have hf := ip c_13 hf
          refine tt_aload (pc := 41) (i := 5) (j := 0) E dX2_inRow_41 rfl ?_
          exact tt_aret (pc := 43) E kq_7 hr hlk dX2_inRow_43 (Nat.le_of_ble_eq_true rfl) (Nat.le_of_ble_eq_true rfl) (pv hf)
set_option maxHeartbeats 4000000 in
theorem cX2_inRow_ok {l : Launch} {B : Nat} {D : va_G} {cT : Nat → ClassId} {n : Nat} {adK adV : Nat → Nat} {o0 : Nat} {v1 : Int32} {μ : Mem} {res : Nat} (h0 : isK n o0 1) (hf : fX2_inRow o0 v1 μ = some res) : MP 2 l yX2_inRow cX2_inRow 6 (some (.object "TurnWheel$Fighter")) rmX2_inRow B D cT (XW B adK adV) n [.ref (B + o0), .int v1] μ (res, μ) := by
  refine tt_ofW mtX2_inRow.1 (Nat.le_of_ble_eq_true rfl) rfl ?_
  intro p e s m below meth c E0 hr hlk
  have E : EE p s m _ c cX2_inRow 6 RX2 B D cT (XW B adK adV) := E0
  unfold fX2_inRow at hf
  refine tt_aload_n (pc := 0) (i := 0) (j := 0) E dX2_inRow_0 rfl rfl ?_
  obtain ⟨q_1, hq_2, hf⟩ := bd_some hf
  refine tt_getP (pc := 1) (t := 15) E lfX2_11 rfl rfl h0 dX2_inRow_1 hq_2 (fun kq_3 => ?_)
  refine tt_astore_n (pc := 4) (i := 2) (lv' := [(2, .ref (B + q_1)), (0, .ref (B + o0)), (1, .int v1)]) E dX2_inRow_4 rfl (Nat.le_of_ble_eq_true rfl) rfl ?_
  refine tt_aload_n (pc := 5) (i := 2) (j := 0) E dX2_inRow_5 rfl rfl ?_
  refine tt_alen (pc := 6) (v := Int32.ofNat (Ln q_1)) E (k := 15) ⟨(Nat.le_of_ble_eq_true rfl), (Nat.le_of_ble_eq_true rfl)⟩ kq_3 rfl dX2_inRow_6 ?_
  refine tt_nmI hf (fun v_4 hf => ?_)
  refine tt_istore_n (pc := 7) (i := 3) (lv' := [(3, .int v_4), (2, .ref (B + q_1)), (0, .ref (B + o0)), (1, .int v1)]) E dX2_inRow_7 rfl (Nat.le_of_ble_eq_true rfl) rfl ?_
  refine tt_iconst (pc := 8) (v := 0) E dX2_inRow_8 ic_0 ?_
  refine tt_istore (pc := 9) (i := 4) (lv' := [(4, .int 0), (3, .int v_4), (2, .ref (B + q_1)), (0, .ref (B + o0)), (1, .int v1)]) E dX2_inRow_9 (Nat.le_of_ble_eq_true rfl) rfl ?_
  refine tt_sub [3, 4, 2, 1, 0] (lv' := [(0, .ref (B + o0)), (1, .int v1), (2, .ref (B + q_1)), (3, .int v_4), (4, .int 0)]) rfl ?_
  exact tX2_inRow_11 E hr hlk h0 kq_3 FU 0 hf
set_option maxHeartbeats 4000000 in
theorem cX3_addAct_ok {l : Launch} {B : Nat} {D : va_G} {cT : Nat → ClassId} {n : Nat} {adK adV : Nat → Nat} {o0 : Nat} {v1 : Int32} {v2 : Int32} {μ : Mem} {res : Mem} (h0 : isK n o0 2) (hf : fX3_addAct o0 v1 v2 μ = some res) : MV l yX3_addAct cX3_addAct 3 (none) rmX3_addAct B D cT (XW B adK adV) n [.ref (B + o0), .int v1, .int v2] μ res := by
  refine tt_ofW mtX3_addAct.1 (Nat.le_of_ble_eq_true rfl) rfl ?_
  intro p e s m below meth c E0 hr hlk
  have E : EE p s m _ c cX3_addAct 3 RX3 B D cT (XW B adK adV) := E0
  unfold fX3_addAct at hf
  refine tt_aload_n (pc := 0) (i := 0) (j := 0) E dX3_addAct_0 rfl rfl ?_
  refine tt_getI (pc := 1) E lfX3_18 rfl h0 dX3_addAct_1 ?_
  refine tt_bipush (pc := 4) (v := 6) E dX3_addAct_4 bc_6 ?_
  refine tt_icmp_ge (pc := 6) (tgt := 31) E dX3_addAct_6 rfl (fun c_5 => ?_) (fun c_5 => ?_)
  · have hf := ip c_5 hf
    exact tt_vret (pc := 31) E hr hlk dX3_addAct_31 (Nat.le_of_ble_eq_true rfl) (Nat.le_of_ble_eq_true rfl) hf
  · have hf := ine c_5 hf
    refine tt_aload_n (pc := 9) (i := 0) (j := 0) E dX3_addAct_9 rfl rfl ?_
    refine tt_dup (pc := 10) E dX3_addAct_10 rfl ?_
    refine tt_getI (pc := 11) E lfX3_18 rfl h0 dX3_addAct_11 ?_
    refine tt_iconst (pc := 14) (v := 1) E dX3_addAct_14 ic_1 ?_
    refine tt_iadd (pc := 15) E dX3_addAct_15 ?_
    refine tt_putI (pc := 16) E lfX3_18 rfl h0 dX3_addAct_16 (tt_nmM hf (fun m_1 hf => ?_))
    refine tt_aload_n (pc := 19) (i := 0) (j := 0) E dX3_addAct_19 rfl rfl ?_
    refine tt_aload_n (pc := 20) (i := 0) (j := 0) E dX3_addAct_20 rfl rfl ?_
    refine tt_getI (pc := 21) E lfX3_18 rfl h0 dX3_addAct_21 ?_
    refine tt_iconst (pc := 24) (v := 1) E dX3_addAct_24 ic_1 ?_
    refine tt_isub (pc := 25) E dX3_addAct_25 ?_
    refine tt_iload_n (pc := 26) (i := 1) (j := 1) E dX3_addAct_26 rfl rfl ?_
    refine tt_iload_n (pc := 27) (i := 2) (j := 2) E dX3_addAct_27 rfl rfl ?_
    obtain ⟨r_2, hr_3, hf⟩ := bd_some hf
    have hc_4 := cX3_putAct_ok (l := l) (B := B) (D := D) (cT := cT) (n := n) (adK := adK) (adV := adV) h0 hr_3
    refine tt_cV (pc := 28) (tt_vi E lmX3_70 mtX3_putAct hc_4 h0 rfl rfl (Nat.le_of_ble_eq_true rfl) ⟨(Nat.le_of_ble_eq_true rfl), (Nat.le_of_ble_eq_true rfl)⟩ ⟨(Nat.le_of_ble_eq_true rfl), (Nat.le_of_ble_eq_true rfl)⟩ dX3_addAct_28) ?_
    exact tt_vret (pc := 31) E hr hlk dX3_addAct_31 (Nat.le_of_ble_eq_true rfl) (Nat.le_of_ble_eq_true rfl) hf
set_option maxHeartbeats 4000000 in
theorem cX3_likeness_ok {l : Launch} {B : Nat} {D : va_G} {cT : Nat → ClassId} {n : Nat} {adK adV : Nat → Nat} {o0 : Nat} {μ : Mem} {res : Int64} (h0 : isK n o0 2) (hf : fX3_likeness o0 μ = some res) : MJ l yX3_likeness cX3_likeness 3 (some .long) rmX3_likeness B D cT (XW B adK adV) n [.ref (B + o0)] μ (res, μ) := by
  refine tt_ofW mtX3_likeness.1 (Nat.le_of_ble_eq_true rfl) rfl ?_
  intro p e s m below meth c E0 hr hlk
  have E : EE p s m _ c cX3_likeness 3 RX3 B D cT (XW B adK adV) := E0
  unfold fX3_likeness at hf
  refine tt_aload_n (pc := 0) (i := 0) (j := 0) E dX3_likeness_0 rfl rfl ?_
  refine tt_getI (pc := 1) E lfX3_32 rfl h0 dX3_likeness_1 ?_
  refine tt_i2l (pc := 4) E dX3_likeness_4 ?_
  refine tt_nmJ hf (fun v_1 hf => ?_)
  refine tt_lstore_n (pc := 5) (i := 1) (lv' := [(1, .long v_1), (0, .ref (B + o0))]) E dX3_likeness_5 rfl (Nat.le_of_ble_eq_true rfl) rfl ?_
  refine tt_lload_n (pc := 6) (i := 1) (j := 0) E dX3_likeness_6 rfl rfl ?_
  refine tt_bipush (pc := 7) (v := 7) E dX3_likeness_7 bc_7 ?_
  refine tt_lshl (pc := 9) E dX3_likeness_9 ?_
  refine tt_aload_n (pc := 10) (i := 0) (j := 1) E dX3_likeness_10 rfl rfl ?_
  refine tt_getI (pc := 11) E lfX3_29 rfl h0 dX3_likeness_11 ?_
  refine tt_i2l (pc := 14) E dX3_likeness_14 ?_
  refine tt_lor (pc := 15) E dX3_likeness_15 ?_
  refine tt_nmJ hf (fun v_2 hf => ?_)
  refine tt_lstore_n (pc := 16) (i := 1) (lv' := [(1, .long v_2), (0, .ref (B + o0))]) E dX3_likeness_16 rfl (Nat.le_of_ble_eq_true rfl) rfl ?_
  refine tt_lload_n (pc := 17) (i := 1) (j := 0) E dX3_likeness_17 rfl rfl ?_
  refine tt_bipush (pc := 18) (v := 14) E dX3_likeness_18 bc_14 ?_
  refine tt_lshl (pc := 20) E dX3_likeness_20 ?_
  refine tt_aload_n (pc := 21) (i := 0) (j := 1) E dX3_likeness_21 rfl rfl ?_
  refine tt_getI (pc := 22) E lfX3_38 rfl h0 dX3_likeness_22 ?_
  refine tt_i2l (pc := 25) E dX3_likeness_25 ?_
  refine tt_lor (pc := 26) E dX3_likeness_26 ?_
  refine tt_nmJ hf (fun v_3 hf => ?_)
  refine tt_lstore_n (pc := 27) (i := 1) (lv' := [(1, .long v_3), (0, .ref (B + o0))]) E dX3_likeness_27 rfl (Nat.le_of_ble_eq_true rfl) rfl ?_
  refine tt_lload_n (pc := 28) (i := 1) (j := 0) E dX3_likeness_28 rfl rfl ?_
  refine tt_bipush (pc := 29) (v := 7) E dX3_likeness_29 bc_7 ?_
  refine tt_lshl (pc := 31) E dX3_likeness_31 ?_
  refine tt_aload_n (pc := 32) (i := 0) (j := 1) E dX3_likeness_32 rfl rfl ?_
  refine tt_getI (pc := 33) E lfX3_41 rfl h0 dX3_likeness_33 ?_
  refine tt_i2l (pc := 36) E dX3_likeness_36 ?_
  refine tt_lor (pc := 37) E dX3_likeness_37 ?_
  refine tt_nmJ hf (fun v_4 hf => ?_)
  refine tt_lstore_n (pc := 38) (i := 1) (lv' := [(1, .long v_4), (0, .ref (B + o0))]) E dX3_likeness_38 rfl (Nat.le_of_ble_eq_true rfl) rfl ?_
  refine tt_lload_n (pc := 39) (i := 1) (j := 0) E dX3_likeness_39 rfl rfl ?_
  refine tt_iconst (pc := 40) (v := 2) E dX3_likeness_40 ic_2 ?_
  refine tt_lshl (pc := 41) E dX3_likeness_41 ?_
  refine tt_aload_n (pc := 42) (i := 0) (j := 1) E dX3_likeness_42 rfl rfl ?_
  refine tt_getI (pc := 43) E lfX3_44 rfl h0 dX3_likeness_43 ?_
  refine tt_i2l (pc := 46) E dX3_likeness_46 ?_
  refine tt_lor (pc := 47) E dX3_likeness_47 ?_
  refine tt_nmJ hf (fun v_5 hf => ?_)
  refine tt_lstore_n (pc := 48) (i := 1) (lv' := [(1, .long v_5), (0, .ref (B + o0))]) E dX3_likeness_48 rfl (Nat.le_of_ble_eq_true rfl) rfl ?_
  refine tt_lload_n (pc := 49) (i := 1) (j := 0) E dX3_likeness_49 rfl rfl ?_
  refine tt_iconst (pc := 50) (v := 3) E dX3_likeness_50 ic_3 ?_
  refine tt_lshl (pc := 51) E dX3_likeness_51 ?_
  refine tt_aload_n (pc := 52) (i := 0) (j := 1) E dX3_likeness_52 rfl rfl ?_
  refine tt_getI (pc := 53) E lfX3_47 rfl h0 dX3_likeness_53 ?_
  refine tt_i2l (pc := 56) E dX3_likeness_56 ?_
  refine tt_lor (pc := 57) E dX3_likeness_57 ?_
  exact tt_lret (pc := 58) E hr hlk dX3_likeness_58 (Nat.le_of_ble_eq_true rfl) (Nat.le_of_ble_eq_true rfl) (pv hf)
set_option maxHeartbeats 4000000 in
theorem cX4_afterTurns_ok {l : Launch} {B : Nat} {D : va_G} {cT : Nat → ClassId} {n : Nat} {adK adV : Nat → Nat} {o0 : Nat} {o1 : Nat} {v2 : Int32} {μ : Mem} {res : Nat × Mem} (h0 : isK n o0 3) (h1 : isK n o1 1) (hf : fX4_afterTurns o0 o1 v2 μ = some res) : MP 1 l yX4_afterTurns cX4_afterTurns 3 (some (.object "TurnWheel$Fight")) rmX4_afterTurns B D cT (XW B adK adV) n [.ref (B + o0), .ref (B + o1), .int v2] μ res := by
  refine tt_ofW mtX4_afterTurns.1 (Nat.le_of_ble_eq_true rfl) rfl ?_
  intro p e s m below meth c E0 hr hlk
  have E : EE p s m _ c cX4_afterTurns 3 RX4 B D cT (XW B adK adV) := E0
  unfold fX4_afterTurns at hf
  refine tt_aload_n (pc := 0) (i := 0) (j := 0) E dX4_afterTurns_0 rfl rfl ?_
  obtain ⟨q_1, hq_2, hf⟩ := bd_some hf
  refine tt_getP (pc := 1) (t := 1) E lfX4_12 rfl rfl h0 dX4_afterTurns_1 hq_2 (fun kq_3 => ?_)
  refine tt_aload_n (pc := 4) (i := 1) (j := 1) E dX4_afterTurns_4 rfl rfl ?_
  obtain ⟨r_4, hr_5, hf⟩ := bd_some hf
  have hc_6 := cX2_copyFrom_ok (l := l) (B := B) (D := D) (cT := cT) (n := n) (adK := adK) (adV := adV) kq_3 h1 hr_5
  refine tt_cV (pc := 5) (tt_vi E lmX4_29 mtX2_copyFrom hc_6 kq_3 rfl rfl (Nat.le_of_ble_eq_true rfl) ⟨(Nat.le_of_ble_eq_true rfl), (Nat.le_of_ble_eq_true rfl)⟩ ⟨(Nat.le_of_ble_eq_true rfl), (Nat.le_of_ble_eq_true rfl)⟩ dX4_afterTurns_5) ?_
  refine tt_aload_n (pc := 8) (i := 0) (j := 0) E dX4_afterTurns_8 rfl rfl ?_
  obtain ⟨q_7, hq_8, hf⟩ := bd_some hf
  refine tt_getP (pc := 9) (t := 1) E lfX4_12 rfl rfl h0 dX4_afterTurns_9 hq_8 (fun kq_9 => ?_)
  refine tt_iload_n (pc := 12) (i := 2) (j := 2) E dX4_afterTurns_12 rfl rfl ?_
  obtain ⟨r_10, hr_11, hf⟩ := bd_some hf
  have hc_12 := cX2_playOn_ok (l := l) (B := B) (D := D) (cT := cT) (n := n) (adK := adK) (adV := adV) kq_9 hr_11
  refine tt_cI (pc := 13) (tt_vi E lmX4_33 mtX2_playOn hc_12 kq_9 rfl rfl (Nat.le_of_ble_eq_true rfl) ⟨(Nat.le_of_ble_eq_true rfl), (Nat.le_of_ble_eq_true rfl)⟩ ⟨(Nat.le_of_ble_eq_true rfl), (Nat.le_of_ble_eq_true rfl)⟩ dX4_afterTurns_13) ?_
  refine tt_pop (pc := 16) E dX4_afterTurns_16 rfl ?_
  refine tt_aload_n (pc := 17) (i := 0) (j := 0) E dX4_afterTurns_17 rfl rfl ?_
  obtain ⟨q_13, hq_14, hf⟩ := bd_some hf
  refine tt_getP (pc := 18) (t := 1) E lfX4_12 rfl rfl h0 dX4_afterTurns_18 hq_14 (fun kq_15 => ?_)
  exact tt_aret (pc := 21) E kq_15 hr hlk dX4_afterTurns_21 (Nat.le_of_ble_eq_true rfl) (Nat.le_of_ble_eq_true rfl) hf
set_option maxHeartbeats 4000000 in
theorem cX4_actorOf_ok {l : Launch} {B : Nat} {D : va_G} {cT : Nat → ClassId} {n : Nat} {adK adV : Nat → Nat} {o0 : Nat} {o1 : Nat} {v2 : Int32} {μ : Mem} {res : Nat × Mem} (h0 : isK n o0 3) (h1 : isK n o1 1) (hf : fX4_actorOf o0 o1 v2 μ = some res) : MP 2 l yX4_actorOf cX4_actorOf 3 (some (.object "TurnWheel$Fighter")) rmX4_actorOf B D cT (XW B adK adV) n [.ref (B + o0), .ref (B + o1), .int v2] μ res := by
  refine tt_ofW mtX4_actorOf.1 (Nat.le_of_ble_eq_true rfl) rfl ?_
  intro p e s m below meth c E0 hr hlk
  have E : EE p s m _ c cX4_actorOf 3 RX4 B D cT (XW B adK adV) := E0
  unfold fX4_actorOf at hf
  refine tt_aload_n (pc := 0) (i := 0) (j := 0) E dX4_actorOf_0 rfl rfl ?_
  refine tt_aload_n (pc := 1) (i := 1) (j := 1) E dX4_actorOf_1 rfl rfl ?_
  refine tt_iload_n (pc := 2) (i := 2) (j := 2) E dX4_actorOf_2 rfl rfl ?_
  obtain ⟨r_1, hr_2, hf⟩ := bd_some hf
  have hc_3 := cX4_afterTurns_ok (l := l) (B := B) (D := D) (cT := cT) (n := n) (adK := adK) (adV := adV) h0 h1 hr_2
  refine tt_cP (pc := 3) (tt_vi E lmX4_37 mtX4_afterTurns hc_3 h0 rfl rfl (Nat.le_of_ble_eq_true rfl) ⟨(Nat.le_of_ble_eq_true rfl), (Nat.le_of_ble_eq_true rfl)⟩ ⟨(Nat.le_of_ble_eq_true rfl), (Nat.le_of_ble_eq_true rfl)⟩ dX4_actorOf_3) (fun kq_4 => ?_)
  obtain ⟨r_5, hr_6, hf⟩ := bd_some hf
  have hc_7 := cX2_bringNext_ok (l := l) (B := B) (D := D) (cT := cT) (n := n) (adK := adK) (adV := adV) kq_4 hr_6
  refine tt_cP (pc := 6) (tt_vi E lmX4_41 mtX2_bringNext hc_7 kq_4 rfl rfl (Nat.le_of_ble_eq_true rfl) ⟨(Nat.le_of_ble_eq_true rfl), (Nat.le_of_ble_eq_true rfl)⟩ ⟨(Nat.le_of_ble_eq_true rfl), (Nat.le_of_ble_eq_true rfl)⟩ dX4_actorOf_6) (fun kq_8 => ?_)
  exact tt_aret (pc := 9) E kq_8 hr hlk dX4_actorOf_9 (Nat.le_of_ble_eq_true rfl) (Nat.le_of_ble_eq_true rfl) hf
set_option maxHeartbeats 4000000 in
theorem cX4_timeOf_ok {l : Launch} {B : Nat} {D : va_G} {cT : Nat → ClassId} {n : Nat} {adK adV : Nat → Nat} {o0 : Nat} {o1 : Nat} {v2 : Int32} {μ : Mem} {res : Int32 × Mem} (h0 : isK n o0 3) (h1 : isK n o1 1) (hf : fX4_timeOf o0 o1 v2 μ = some res) : MI l yX4_timeOf cX4_timeOf 4 (some .int) rmX4_timeOf B D cT (XW B adK adV) n [.ref (B + o0), .ref (B + o1), .int v2] μ res := by
  refine tt_ofW mtX4_timeOf.1 (Nat.le_of_ble_eq_true rfl) rfl ?_
  intro p e s m below meth c E0 hr hlk
  have E : EE p s m _ c cX4_timeOf 4 RX4 B D cT (XW B adK adV) := E0
  unfold fX4_timeOf at hf
  refine tt_aload_n (pc := 0) (i := 0) (j := 0) E dX4_timeOf_0 rfl rfl ?_
  refine tt_aload_n (pc := 1) (i := 1) (j := 1) E dX4_timeOf_1 rfl rfl ?_
  refine tt_iload_n (pc := 2) (i := 2) (j := 2) E dX4_timeOf_2 rfl rfl ?_
  obtain ⟨r_1, hr_2, hf⟩ := bd_some hf
  have hc_3 := cX4_afterTurns_ok (l := l) (B := B) (D := D) (cT := cT) (n := n) (adK := adK) (adV := adV) h0 h1 hr_2
  refine tt_cP (pc := 3) (tt_vi E lmX4_37 mtX4_afterTurns hc_3 h0 rfl rfl (Nat.le_of_ble_eq_true rfl) ⟨(Nat.le_of_ble_eq_true rfl), (Nat.le_of_ble_eq_true rfl)⟩ ⟨(Nat.le_of_ble_eq_true rfl), (Nat.le_of_ble_eq_true rfl)⟩ dX4_timeOf_3) (fun kq_4 => ?_)
  obtain ⟨r_5, hr_6, hf⟩ := bd_some hf
  have hc_7 := cX2_bringNext_ok (l := l) (B := B) (D := D) (cT := cT) (n := n) (adK := adK) (adV := adV) kq_4 hr_6
  refine tt_cP (pc := 6) (tt_vi E lmX4_41 mtX2_bringNext hc_7 kq_4 rfl rfl (Nat.le_of_ble_eq_true rfl) ⟨(Nat.le_of_ble_eq_true rfl), (Nat.le_of_ble_eq_true rfl)⟩ ⟨(Nat.le_of_ble_eq_true rfl), (Nat.le_of_ble_eq_true rfl)⟩ dX4_timeOf_6) (fun kq_8 => ?_)
  refine tt_astore_n (pc := 9) (i := 3) (lv' := [(3, .ref (B + r_5.1)), (0, .ref (B + o0)), (1, .ref (B + o1)), (2, .int v2)]) E dX4_timeOf_9 rfl (Nat.le_of_ble_eq_true rfl) rfl ?_
  refine tt_aload_n (pc := 10) (i := 3) (j := 0) E dX4_timeOf_10 rfl rfl ?_
  refine tt_aload_n (pc := 11) (i := 0) (j := 1) E dX4_timeOf_11 rfl rfl ?_
  obtain ⟨q_9, hq_10, hf⟩ := bd_some hf
  refine tt_getP (pc := 12) (t := 1) E lfX4_12 rfl rfl h0 dX4_timeOf_12 hq_10 (fun kq_11 => ?_)
  obtain ⟨q_12, hq_13, hf⟩ := bd_some hf
  refine tt_getP (pc := 15) (t := 2) E lfX4_45 rfl rfl kq_11 dX4_timeOf_15 hq_13 (fun kq_14 => ?_)
  refine tt_acmp_ne (pc := 18) (tgt := 25) E dX4_timeOf_18 rfl (fun c_18 => ?_) (fun c_18 => ?_)
  · have hf := ine c_18 hf
    refine tt_aload_n (pc := 25) (i := 0) (j := 1) E dX4_timeOf_25 rfl rfl ?_
    obtain ⟨q_15, hq_16, hf⟩ := bd_some hf
    refine tt_getP (pc := 26) (t := 1) E lfX4_12 rfl rfl h0 dX4_timeOf_26 hq_16 (fun kq_17 => ?_)
    refine tt_getI (pc := 29) E lfX4_49 rfl kq_17 dX4_timeOf_29 ?_
    exact tt_iret (pc := 32) E hr hlk dX4_timeOf_32 (Nat.le_of_ble_eq_true rfl) (Nat.le_of_ble_eq_true rfl) hf
  · have hf := ip c_18 hf
    refine tt_iconst (pc := 21) (v := (-1)) E dX4_timeOf_21 ic_m1 ?_
    refine tt_goto (pc := 22) (tgt := 32) E dX4_timeOf_22 rfl ?_
    exact tt_iret (pc := 32) E hr hlk dX4_timeOf_32 (Nat.le_of_ble_eq_true rfl) (Nat.le_of_ble_eq_true rfl) hf
set_option maxHeartbeats 4000000 in
theorem cX4_kindOf_ok {l : Launch} {B : Nat} {D : va_G} {cT : Nat → ClassId} {n : Nat} {adK adV : Nat → Nat} {o0 : Nat} {o1 : Nat} {v2 : Int32} {μ : Mem} {res : Int32 × Mem} (h0 : isK n o0 3) (h1 : isK n o1 1) (hf : fX4_kindOf o0 o1 v2 μ = some res) : MI l yX4_kindOf cX4_kindOf 4 (some .int) rmX4_kindOf B D cT (XW B adK adV) n [.ref (B + o0), .ref (B + o1), .int v2] μ res := by
  refine tt_ofW mtX4_kindOf.1 (Nat.le_of_ble_eq_true rfl) rfl ?_
  intro p e s m below meth c E0 hr hlk
  have E : EE p s m _ c cX4_kindOf 4 RX4 B D cT (XW B adK adV) := E0
  unfold fX4_kindOf at hf
  refine tt_aload_n (pc := 0) (i := 0) (j := 0) E dX4_kindOf_0 rfl rfl ?_
  refine tt_aload_n (pc := 1) (i := 1) (j := 1) E dX4_kindOf_1 rfl rfl ?_
  refine tt_iload_n (pc := 2) (i := 2) (j := 2) E dX4_kindOf_2 rfl rfl ?_
  obtain ⟨r_1, hr_2, hf⟩ := bd_some hf
  have hc_3 := cX4_afterTurns_ok (l := l) (B := B) (D := D) (cT := cT) (n := n) (adK := adK) (adV := adV) h0 h1 hr_2
  refine tt_cP (pc := 3) (tt_vi E lmX4_37 mtX4_afterTurns hc_3 h0 rfl rfl (Nat.le_of_ble_eq_true rfl) ⟨(Nat.le_of_ble_eq_true rfl), (Nat.le_of_ble_eq_true rfl)⟩ ⟨(Nat.le_of_ble_eq_true rfl), (Nat.le_of_ble_eq_true rfl)⟩ dX4_kindOf_3) (fun kq_4 => ?_)
  obtain ⟨r_5, hr_6, hf⟩ := bd_some hf
  have hc_7 := cX2_bringNext_ok (l := l) (B := B) (D := D) (cT := cT) (n := n) (adK := adK) (adV := adV) kq_4 hr_6
  refine tt_cP (pc := 6) (tt_vi E lmX4_41 mtX2_bringNext hc_7 kq_4 rfl rfl (Nat.le_of_ble_eq_true rfl) ⟨(Nat.le_of_ble_eq_true rfl), (Nat.le_of_ble_eq_true rfl)⟩ ⟨(Nat.le_of_ble_eq_true rfl), (Nat.le_of_ble_eq_true rfl)⟩ dX4_kindOf_6) (fun kq_8 => ?_)
  refine tt_astore_n (pc := 9) (i := 3) (lv' := [(3, .ref (B + r_5.1)), (0, .ref (B + o0)), (1, .ref (B + o1)), (2, .int v2)]) E dX4_kindOf_9 rfl (Nat.le_of_ble_eq_true rfl) rfl ?_
  refine tt_aload_n (pc := 10) (i := 3) (j := 0) E dX4_kindOf_10 rfl rfl ?_
  refine tt_aload_n (pc := 11) (i := 3) (j := 0) E dX4_kindOf_11 rfl rfl ?_
  refine tt_getI (pc := 12) E lfX4_52 rfl kq_8 dX4_kindOf_12 ?_
  obtain ⟨r_9, hr_10, hf⟩ := bd_some hf
  have hc_11 := cX3_kindAt_ok (l := l) (B := B) (D := D) (cT := cT) (n := n) (adK := adK) (adV := adV) kq_8 hr_10
  refine tt_cI (pc := 15) (tt_vi E lmX4_57 mtX3_kindAt hc_11 kq_8 rfl rfl (Nat.le_of_ble_eq_true rfl) ⟨(Nat.le_of_ble_eq_true rfl), (Nat.le_of_ble_eq_true rfl)⟩ ⟨(Nat.le_of_ble_eq_true rfl), (Nat.le_of_ble_eq_true rfl)⟩ dX4_kindOf_15) ?_
  exact tt_iret (pc := 18) E hr hlk dX4_kindOf_18 (Nat.le_of_ble_eq_true rfl) (Nat.le_of_ble_eq_true rfl) hf
set_option maxHeartbeats 4000000 in
theorem tX4_mostInARow_25 {p : Program} {l : Launch} {e : Env} {s : State} {m : MethodId} {args : Array Value} {below : List Frame} {meth : Method} {c : Code} {B : Nat} {D : va_G} {cT : Nat → ClassId} {n : Nat} {adK adV : Nat → Nat} {res : Int32 × Mem} (E : EE p s m args c cX4_mostInARow 8 RX4 B D cT (XW B adK adV)) (hr : meth.sig.returnType = some .int) (hlk : meth.locks = false) {o0 : Nat} {v2 : Int32} (h0 : isK n o0 3) : ∀ (fu : Nat) (o3 : Nat) (v4 : Int32) (v5 : Int32) (v6 : Int32) (μ : Mem) (h3 : isK n o3 2), zl5 (gX4_mostInARow_25 o0 v2) fu o3 v4 v5 v6 μ = some res → TT p l e rmX4_mostInARow s m args below meth c (QI B D cT n below args s res) 8 B D cT n 0 0 μ 25 [(0, .ref (B + o0)), (2, .int v2), (3, .ref (B + o3)), (4, .int v4), (5, .int v5), (6, .int v6)] [] := by
  intro fu
  induction fu with
  | zero => intro o3 v4 v5 v6 μ h3 hf; exact absurd hf (fun h => by cases h)
  | succ fu ih =>
    intro o3 v4 v5 v6 μ h3 hf
    have hf : gX4_mostInARow_25 o0 v2 (zl5 (gX4_mostInARow_25 o0 v2) fu) o3 v4 v5 v6 μ = some res := hf
    unfold gX4_mostInARow_25 at hf
    refine tt_iload (pc := 25) (i := 6) (j := 5) E dX4_mostInARow_25 rfl ?_
    refine tt_iload_n (pc := 27) (i := 2) (j := 1) E dX4_mostInARow_27 rfl rfl ?_
    refine tt_icmp_ge (pc := 28) (tgt := 98) E dX4_mostInARow_28 rfl (fun c_27 => ?_) (fun c_27 => ?_)
    · have hf := ip c_27 hf
      refine tt_iload (pc := 98) (i := 5) (j := 4) E dX4_mostInARow_98 rfl ?_
      exact tt_iret (pc := 100) E hr hlk dX4_mostInARow_100 (Nat.le_of_ble_eq_true rfl) (Nat.le_of_ble_eq_true rfl) hf
    · have hf := ine c_27 hf
      refine tt_aload_n (pc := 31) (i := 0) (j := 0) E dX4_mostInARow_31 rfl rfl ?_
      obtain ⟨q_1, hq_2, hf⟩ := bd_some hf
      refine tt_getP (pc := 32) (t := 1) E lfX4_12 rfl rfl h0 dX4_mostInARow_32 hq_2 (fun kq_3 => ?_)
      obtain ⟨r_4, hr_5, hf⟩ := bd_some hf
      have hc_6 := cX2_bringNext_ok (l := l) (B := B) (D := D) (cT := cT) (n := n) (adK := adK) (adV := adV) kq_3 hr_5
      refine tt_cP (pc := 35) (tt_vi E lmX4_41 mtX2_bringNext hc_6 kq_3 rfl rfl (Nat.le_of_ble_eq_true rfl) ⟨(Nat.le_of_ble_eq_true rfl), (Nat.le_of_ble_eq_true rfl)⟩ ⟨(Nat.le_of_ble_eq_true rfl), (Nat.le_of_ble_eq_true rfl)⟩ dX4_mostInARow_35) (fun kq_7 => ?_)
      refine tt_astore (pc := 38) (i := 7) (lv' := [(7, .ref (B + r_4.1)), (0, .ref (B + o0)), (2, .int v2), (3, .ref (B + o3)), (4, .int v4), (5, .int v5), (6, .int v6)]) E dX4_mostInARow_38 (Nat.le_of_ble_eq_true rfl) rfl ?_
      refine tt_aload (pc := 40) (i := 7) (j := 0) E dX4_mostInARow_40 rfl ?_
      refine tt_aload_n (pc := 42) (i := 0) (j := 1) E dX4_mostInARow_42 rfl rfl ?_
      obtain ⟨q_8, hq_9, hf⟩ := bd_some hf
      refine tt_getP (pc := 43) (t := 1) E lfX4_12 rfl rfl h0 dX4_mostInARow_43 hq_9 (fun kq_10 => ?_)
      obtain ⟨q_11, hq_12, hf⟩ := bd_some hf
      refine tt_getP (pc := 46) (t := 2) E lfX4_45 rfl rfl kq_10 dX4_mostInARow_46 hq_12 (fun kq_13 => ?_)
      refine tt_acmp_ne (pc := 49) (tgt := 55) E dX4_mostInARow_49 rfl (fun c_26 => ?_) (fun c_26 => ?_)
      · have hf := ine c_26 hf
        refine tt_aload_n (pc := 55) (i := 0) (j := 1) E dX4_mostInARow_55 rfl rfl ?_
        obtain ⟨q_14, hq_15, hf⟩ := bd_some hf
        refine tt_getP (pc := 56) (t := 1) E lfX4_12 rfl rfl h0 dX4_mostInARow_56 hq_15 (fun kq_16 => ?_)
        refine tt_aload (pc := 59) (i := 7) (j := 0) E dX4_mostInARow_59 rfl ?_
        obtain ⟨r_17, hr_18, hf⟩ := bd_some hf
        have hc_19 := cX2_takeTurn_ok (l := l) (B := B) (D := D) (cT := cT) (n := n) (adK := adK) (adV := adV) kq_16 kq_7 hr_18
        refine tt_cV (pc := 61) (tt_vi E lmX4_60 mtX2_takeTurn hc_19 kq_16 rfl rfl (Nat.le_of_ble_eq_true rfl) ⟨(Nat.le_of_ble_eq_true rfl), (Nat.le_of_ble_eq_true rfl)⟩ ⟨(Nat.le_of_ble_eq_true rfl), (Nat.le_of_ble_eq_true rfl)⟩ dX4_mostInARow_61) ?_
        refine tt_aload (pc := 64) (i := 7) (j := 0) E dX4_mostInARow_64 rfl ?_
        refine tt_aload_n (pc := 66) (i := 3) (j := 3) E dX4_mostInARow_66 rfl rfl ?_
        refine tt_acmp_ne (pc := 67) (tgt := 77) E dX4_mostInARow_67 rfl (fun c_25 => ?_) (fun c_25 => ?_)
        · have hf := ine c_25 hf
          refine tt_iconst (pc := 77) (v := 1) E dX4_mostInARow_77 ic_1 ?_
          refine tt_istore (pc := 78) (i := 4) (lv' := [(4, .int 1), (7, .ref (B + r_4.1)), (0, .ref (B + o0)), (2, .int v2), (3, .ref (B + o3)), (5, .int v5), (6, .int v6)]) E dX4_mostInARow_78 (Nat.le_of_ble_eq_true rfl) rfl ?_
          refine tt_iload (pc := 80) (i := 5) (j := 5) E dX4_mostInARow_80 rfl ?_
          refine tt_iload (pc := 82) (i := 4) (j := 0) E dX4_mostInARow_82 rfl ?_
          refine tt_mmax (pc := 84) E lmX4_64 (Nat.le_of_ble_eq_true rfl) (Nat.le_of_ble_eq_true rfl) ⟨(Nat.le_of_ble_eq_true rfl), (Nat.le_of_ble_eq_true rfl)⟩ dX4_mostInARow_84 ?_
          refine tt_nmI hf (fun v_20 hf => ?_)
          refine tt_istore (pc := 87) (i := 5) (lv' := [(5, .int v_20), (4, .int 1), (7, .ref (B + r_4.1)), (0, .ref (B + o0)), (2, .int v2), (3, .ref (B + o3)), (6, .int v6)]) E dX4_mostInARow_87 (Nat.le_of_ble_eq_true rfl) rfl ?_
          refine tt_aload (pc := 89) (i := 7) (j := 2) E dX4_mostInARow_89 rfl ?_
          refine tt_astore_n (pc := 91) (i := 3) (lv' := [(3, .ref (B + r_4.1)), (5, .int v_20), (4, .int 1), (7, .ref (B + r_4.1)), (0, .ref (B + o0)), (2, .int v2), (6, .int v6)]) E dX4_mostInARow_91 rfl (Nat.le_of_ble_eq_true rfl) rfl ?_
          obtain ⟨v_21, ev_21, hf⟩ := nm_ex hf
          refine tt_iinc (pc := 92) (i := 6) (j := 6) (lv' := [(6, .int v_21), (3, .ref (B + r_4.1)), (5, .int v_20), (4, .int 1), (7, .ref (B + r_4.1)), (0, .ref (B + o0)), (2, .int v2)]) E dX4_mostInARow_92 rfl (ev_21).symm (Nat.le_of_ble_eq_true rfl) rfl ?_
          refine tt_goto (pc := 95) (tgt := 25) E dX4_mostInARow_95 rfl ?_
          refine tt_sub [5, 6, 1, 3, 2, 0] (lv' := [(0, .ref (B + o0)), (2, .int v2), (3, .ref (B + r_4.1)), (4, .int 1), (5, .int v_20), (6, .int v_21)]) rfl ?_
          exact ih r_4.1 1 v_20 v_21 r_17 kq_7 hf
        · have hf := ip c_25 hf
          refine tt_iload (pc := 70) (i := 4) (j := 4) E dX4_mostInARow_70 rfl ?_
          refine tt_iconst (pc := 72) (v := 1) E dX4_mostInARow_72 ic_1 ?_
          refine tt_iadd (pc := 73) E dX4_mostInARow_73 ?_
          refine tt_goto (pc := 74) (tgt := 78) E dX4_mostInARow_74 rfl ?_
          refine tt_nmI hf (fun v_22 hf => ?_)
          refine tt_istore (pc := 78) (i := 4) (lv' := [(4, .int v_22), (7, .ref (B + r_4.1)), (0, .ref (B + o0)), (2, .int v2), (3, .ref (B + o3)), (5, .int v5), (6, .int v6)]) E dX4_mostInARow_78 (Nat.le_of_ble_eq_true rfl) rfl ?_
          refine tt_iload (pc := 80) (i := 5) (j := 5) E dX4_mostInARow_80 rfl ?_
          refine tt_iload (pc := 82) (i := 4) (j := 0) E dX4_mostInARow_82 rfl ?_
          refine tt_mmax (pc := 84) E lmX4_64 (Nat.le_of_ble_eq_true rfl) (Nat.le_of_ble_eq_true rfl) ⟨(Nat.le_of_ble_eq_true rfl), (Nat.le_of_ble_eq_true rfl)⟩ dX4_mostInARow_84 ?_
          refine tt_nmI hf (fun v_23 hf => ?_)
          refine tt_istore (pc := 87) (i := 5) (lv' := [(5, .int v_23), (4, .int v_22), (7, .ref (B + r_4.1)), (0, .ref (B + o0)), (2, .int v2), (3, .ref (B + o3)), (6, .int v6)]) E dX4_mostInARow_87 (Nat.le_of_ble_eq_true rfl) rfl ?_
          refine tt_aload (pc := 89) (i := 7) (j := 2) E dX4_mostInARow_89 rfl ?_
          refine tt_astore_n (pc := 91) (i := 3) (lv' := [(3, .ref (B + r_4.1)), (5, .int v_23), (4, .int v_22), (7, .ref (B + r_4.1)), (0, .ref (B + o0)), (2, .int v2), (6, .int v6)]) E dX4_mostInARow_91 rfl (Nat.le_of_ble_eq_true rfl) rfl ?_
          obtain ⟨v_24, ev_24, hf⟩ := nm_ex hf
          refine tt_iinc (pc := 92) (i := 6) (j := 6) (lv' := [(6, .int v_24), (3, .ref (B + r_4.1)), (5, .int v_23), (4, .int v_22), (7, .ref (B + r_4.1)), (0, .ref (B + o0)), (2, .int v2)]) E dX4_mostInARow_92 rfl (ev_24).symm (Nat.le_of_ble_eq_true rfl) rfl ?_
          refine tt_goto (pc := 95) (tgt := 25) E dX4_mostInARow_95 rfl ?_
          refine tt_sub [5, 6, 1, 3, 2, 0] (lv' := [(0, .ref (B + o0)), (2, .int v2), (3, .ref (B + r_4.1)), (4, .int v_22), (5, .int v_23), (6, .int v_24)]) rfl ?_
          exact ih r_4.1 v_22 v_23 v_24 r_17 kq_7 hf
      · have hf := ip c_26 hf
        refine tt_iload (pc := 52) (i := 5) (j := 5) E dX4_mostInARow_52 rfl ?_
        exact tt_iret (pc := 54) E hr hlk dX4_mostInARow_54 (Nat.le_of_ble_eq_true rfl) (Nat.le_of_ble_eq_true rfl) hf
set_option maxHeartbeats 4000000 in
theorem cX4_mostInARow_ok {l : Launch} {B : Nat} {D : va_G} {cT : Nat → ClassId} {n : Nat} {adK adV : Nat → Nat} {o0 : Nat} {o1 : Nat} {v2 : Int32} {μ : Mem} {res : Int32 × Mem} (h0 : isK n o0 3) (h1 : isK n o1 1) (hf : fX4_mostInARow o0 o1 v2 μ = some res) : MI l yX4_mostInARow cX4_mostInARow 8 (some .int) rmX4_mostInARow B D cT (XW B adK adV) n [.ref (B + o0), .ref (B + o1), .int v2] μ res := by
  refine tt_ofW mtX4_mostInARow.1 (Nat.le_of_ble_eq_true rfl) rfl ?_
  intro p e s m below meth c E0 hr hlk
  have E : EE p s m _ c cX4_mostInARow 8 RX4 B D cT (XW B adK adV) := E0
  unfold fX4_mostInARow at hf
  refine tt_aload_n (pc := 0) (i := 0) (j := 0) E dX4_mostInARow_0 rfl rfl ?_
  obtain ⟨q_1, hq_2, hf⟩ := bd_some hf
  refine tt_getP (pc := 1) (t := 1) E lfX4_12 rfl rfl h0 dX4_mostInARow_1 hq_2 (fun kq_3 => ?_)
  refine tt_aload_n (pc := 4) (i := 1) (j := 1) E dX4_mostInARow_4 rfl rfl ?_
  obtain ⟨r_4, hr_5, hf⟩ := bd_some hf
  have hc_6 := cX2_copyFrom_ok (l := l) (B := B) (D := D) (cT := cT) (n := n) (adK := adK) (adV := adV) kq_3 h1 hr_5
  refine tt_cV (pc := 5) (tt_vi E lmX4_29 mtX2_copyFrom hc_6 kq_3 rfl rfl (Nat.le_of_ble_eq_true rfl) ⟨(Nat.le_of_ble_eq_true rfl), (Nat.le_of_ble_eq_true rfl)⟩ ⟨(Nat.le_of_ble_eq_true rfl), (Nat.le_of_ble_eq_true rfl)⟩ dX4_mostInARow_5) ?_
  refine tt_aload_n (pc := 8) (i := 0) (j := 0) E dX4_mostInARow_8 rfl rfl ?_
  obtain ⟨q_7, hq_8, hf⟩ := bd_some hf
  refine tt_getP (pc := 9) (t := 1) E lfX4_12 rfl rfl h0 dX4_mostInARow_9 hq_8 (fun kq_9 => ?_)
  obtain ⟨q_10, hq_11, hf⟩ := bd_some hf
  refine tt_getP (pc := 12) (t := 2) E lfX4_45 rfl rfl kq_9 dX4_mostInARow_12 hq_11 (fun kq_12 => ?_)
  refine tt_astore_n (pc := 15) (i := 3) (lv' := [(3, .ref (B + q_10)), (0, .ref (B + o0)), (1, .ref (B + o1)), (2, .int v2)]) E dX4_mostInARow_15 rfl (Nat.le_of_ble_eq_true rfl) rfl ?_
  refine tt_iconst (pc := 16) (v := 0) E dX4_mostInARow_16 ic_0 ?_
  refine tt_istore (pc := 17) (i := 4) (lv' := [(4, .int 0), (3, .ref (B + q_10)), (0, .ref (B + o0)), (1, .ref (B + o1)), (2, .int v2)]) E dX4_mostInARow_17 (Nat.le_of_ble_eq_true rfl) rfl ?_
  refine tt_iconst (pc := 19) (v := 0) E dX4_mostInARow_19 ic_0 ?_
  refine tt_istore (pc := 20) (i := 5) (lv' := [(5, .int 0), (4, .int 0), (3, .ref (B + q_10)), (0, .ref (B + o0)), (1, .ref (B + o1)), (2, .int v2)]) E dX4_mostInARow_20 (Nat.le_of_ble_eq_true rfl) rfl ?_
  refine tt_iconst (pc := 22) (v := 0) E dX4_mostInARow_22 ic_0 ?_
  refine tt_istore (pc := 23) (i := 6) (lv' := [(6, .int 0), (5, .int 0), (4, .int 0), (3, .ref (B + q_10)), (0, .ref (B + o0)), (1, .ref (B + o1)), (2, .int v2)]) E dX4_mostInARow_23 (Nat.le_of_ble_eq_true rfl) rfl ?_
  refine tt_sub [4, 6, 3, 2, 1, 0] (lv' := [(0, .ref (B + o0)), (2, .int v2), (3, .ref (B + q_10)), (4, .int 0), (5, .int 0), (6, .int 0)]) rfl ?_
  exact tX4_mostInARow_25 E hr hlk h0 FU q_10 0 0 0 r_4 kq_12 hf
set_option maxHeartbeats 4000000 in
theorem cX4_turnsToEnd_ok {l : Launch} {B : Nat} {D : va_G} {cT : Nat → ClassId} {n : Nat} {adK adV : Nat → Nat} {o0 : Nat} {o1 : Nat} {μ : Mem} {res : Int32 × Mem} (h0 : isK n o0 3) (h1 : isK n o1 1) (hf : fX4_turnsToEnd o0 o1 μ = some res) : MI l yX4_turnsToEnd cX4_turnsToEnd 3 (some .int) rmX4_turnsToEnd B D cT (XW B adK adV) n [.ref (B + o0), .ref (B + o1)] μ res := by
  refine tt_ofW mtX4_turnsToEnd.1 (Nat.le_of_ble_eq_true rfl) rfl ?_
  intro p e s m below meth c E0 hr hlk
  have E : EE p s m _ c cX4_turnsToEnd 3 RX4 B D cT (XW B adK adV) := E0
  unfold fX4_turnsToEnd at hf
  refine tt_aload_n (pc := 0) (i := 0) (j := 0) E dX4_turnsToEnd_0 rfl rfl ?_
  obtain ⟨q_1, hq_2, hf⟩ := bd_some hf
  refine tt_getP (pc := 1) (t := 1) E lfX4_12 rfl rfl h0 dX4_turnsToEnd_1 hq_2 (fun kq_3 => ?_)
  refine tt_aload_n (pc := 4) (i := 1) (j := 1) E dX4_turnsToEnd_4 rfl rfl ?_
  obtain ⟨r_4, hr_5, hf⟩ := bd_some hf
  have hc_6 := cX2_copyFrom_ok (l := l) (B := B) (D := D) (cT := cT) (n := n) (adK := adK) (adV := adV) kq_3 h1 hr_5
  refine tt_cV (pc := 5) (tt_vi E lmX4_29 mtX2_copyFrom hc_6 kq_3 rfl rfl (Nat.le_of_ble_eq_true rfl) ⟨(Nat.le_of_ble_eq_true rfl), (Nat.le_of_ble_eq_true rfl)⟩ ⟨(Nat.le_of_ble_eq_true rfl), (Nat.le_of_ble_eq_true rfl)⟩ dX4_turnsToEnd_5) ?_
  refine tt_aload_n (pc := 8) (i := 0) (j := 0) E dX4_turnsToEnd_8 rfl rfl ?_
  obtain ⟨q_7, hq_8, hf⟩ := bd_some hf
  refine tt_getP (pc := 9) (t := 1) E lfX4_12 rfl rfl h0 dX4_turnsToEnd_9 hq_8 (fun kq_9 => ?_)
  refine tt_sipush (pc := 12) (v := 200) E dX4_turnsToEnd_12 sc_200 ?_
  obtain ⟨r_10, hr_11, hf⟩ := bd_some hf
  have hc_12 := cX2_playOn_ok (l := l) (B := B) (D := D) (cT := cT) (n := n) (adK := adK) (adV := adV) kq_9 hr_11
  refine tt_cI (pc := 15) (tt_vi E lmX4_33 mtX2_playOn hc_12 kq_9 rfl rfl (Nat.le_of_ble_eq_true rfl) ⟨(Nat.le_of_ble_eq_true rfl), (Nat.le_of_ble_eq_true rfl)⟩ ⟨(Nat.le_of_ble_eq_true rfl), (Nat.le_of_ble_eq_true rfl)⟩ dX4_turnsToEnd_15) ?_
  refine tt_istore_n (pc := 18) (i := 2) (lv' := [(2, .int r_10.1), (0, .ref (B + o0)), (1, .ref (B + o1))]) E dX4_turnsToEnd_18 rfl (Nat.le_of_ble_eq_true rfl) rfl ?_
  refine tt_aload_n (pc := 19) (i := 0) (j := 1) E dX4_turnsToEnd_19 rfl rfl ?_
  obtain ⟨q_13, hq_14, hf⟩ := bd_some hf
  refine tt_getP (pc := 20) (t := 1) E lfX4_12 rfl rfl h0 dX4_turnsToEnd_20 hq_14 (fun kq_15 => ?_)
  obtain ⟨r_16, hr_17, hf⟩ := bd_some hf
  have hc_18 := cX2_over_ok (l := l) (B := B) (D := D) (cT := cT) (n := n) (adK := adK) (adV := adV) kq_15 hr_17
  refine tt_cZ (pc := 23) (tt_vi E lmX4_70 mtX2_over hc_18 kq_15 rfl rfl (Nat.le_of_ble_eq_true rfl) ⟨(Nat.le_of_ble_eq_true rfl), (Nat.le_of_ble_eq_true rfl)⟩ ⟨(Nat.le_of_ble_eq_true rfl), (Nat.le_of_ble_eq_true rfl)⟩ dX4_turnsToEnd_23) (fun z_19 => ?_)
  refine tt_if_eq (pc := 26) (tgt := 33) E dX4_turnsToEnd_26 rfl (fun c_20 => ?_) (fun c_20 => ?_)
  · have hf := ip c_20 hf
    refine tt_iconst (pc := 33) (v := (-1)) E dX4_turnsToEnd_33 ic_m1 ?_
    exact tt_iret (pc := 34) E hr hlk dX4_turnsToEnd_34 (Nat.le_of_ble_eq_true rfl) (Nat.le_of_ble_eq_true rfl) hf
  · have hf := ine c_20 hf
    refine tt_iload_n (pc := 29) (i := 2) (j := 0) E dX4_turnsToEnd_29 rfl rfl ?_
    refine tt_goto (pc := 30) (tgt := 34) E dX4_turnsToEnd_30 rfl ?_
    exact tt_iret (pc := 34) E hr hlk dX4_turnsToEnd_34 (Nat.le_of_ble_eq_true rfl) (Nat.le_of_ble_eq_true rfl) hf
set_option maxHeartbeats 4000000 in
theorem tX4_turnOfLoss_20 {p : Program} {l : Launch} {e : Env} {s : State} {m : MethodId} {args : Array Value} {below : List Frame} {meth : Method} {c : Code} {B : Nat} {D : va_G} {cT : Nat → ClassId} {n : Nat} {adK adV : Nat → Nat} {res : Int32 × Mem} (E : EE p s m args c cX4_turnOfLoss 6 RX4 B D cT (XW B adK adV)) (hr : meth.sig.returnType = some .int) (hlk : meth.locks = false) {o0 : Nat} {o3 : Nat} (h0 : isK n o0 3) (h3 : isK n o3 2) : ∀ (fu : Nat) (v4 : Int32) (μ : Mem), zl2 (gX4_turnOfLoss_20 o0 o3) fu v4 μ = some res → TT p l e rmX4_turnOfLoss s m args below meth c (QI B D cT n below args s res) 6 B D cT n 0 0 μ 20 [(0, .ref (B + o0)), (3, .ref (B + o3)), (4, .int v4)] [] := by
  intro fu
  induction fu with
  | zero => intro v4 μ hf; exact absurd hf (fun h => by cases h)
  | succ fu ih =>
    intro v4 μ hf
    have hf : gX4_turnOfLoss_20 o0 o3 (zl2 (gX4_turnOfLoss_20 o0 o3) fu) v4 μ = some res := hf
    unfold gX4_turnOfLoss_20 at hf
    refine tt_iload (pc := 20) (i := 4) (j := 2) E dX4_turnOfLoss_20 rfl ?_
    refine tt_sipush (pc := 22) (v := 200) E dX4_turnOfLoss_22 sc_200 ?_
    refine tt_icmp_gt (pc := 25) (tgt := 61) E dX4_turnOfLoss_25 rfl (fun c_10 => ?_) (fun c_10 => ?_)
    · have hf := ip c_10 hf
      refine tt_iconst (pc := 61) (v := (-1)) E dX4_turnOfLoss_61 ic_m1 ?_
      exact tt_iret (pc := 62) E hr hlk dX4_turnOfLoss_62 (Nat.le_of_ble_eq_true rfl) (Nat.le_of_ble_eq_true rfl) hf
    · have hf := ine c_10 hf
      refine tt_aload_n (pc := 28) (i := 3) (j := 1) E dX4_turnOfLoss_28 rfl rfl ?_
      refine tt_getI (pc := 29) E lfX4_78 rfl h3 dX4_turnOfLoss_29 ?_
      refine tt_nmI hf (fun v_1 hf => ?_)
      refine tt_istore (pc := 32) (i := 5) (lv' := [(5, .int v_1), (0, .ref (B + o0)), (3, .ref (B + o3)), (4, .int v4)]) E dX4_turnOfLoss_32 (Nat.le_of_ble_eq_true rfl) rfl ?_
      refine tt_aload_n (pc := 34) (i := 0) (j := 1) E dX4_turnOfLoss_34 rfl rfl ?_
      obtain ⟨q_2, hq_3, hf⟩ := bd_some hf
      refine tt_getP (pc := 35) (t := 1) E lfX4_12 rfl rfl h0 dX4_turnOfLoss_35 hq_3 (fun kq_4 => ?_)
      refine tt_iconst (pc := 38) (v := 1) E dX4_turnOfLoss_38 ic_1 ?_
      obtain ⟨r_5, hr_6, hf⟩ := bd_some hf
      have hc_7 := cX2_playOn_ok (l := l) (B := B) (D := D) (cT := cT) (n := n) (adK := adK) (adV := adV) kq_4 hr_6
      refine tt_cI (pc := 39) (tt_vi E lmX4_33 mtX2_playOn hc_7 kq_4 rfl rfl (Nat.le_of_ble_eq_true rfl) ⟨(Nat.le_of_ble_eq_true rfl), (Nat.le_of_ble_eq_true rfl)⟩ ⟨(Nat.le_of_ble_eq_true rfl), (Nat.le_of_ble_eq_true rfl)⟩ dX4_turnOfLoss_39) ?_
      refine tt_pop (pc := 42) E dX4_turnOfLoss_42 rfl ?_
      refine tt_aload_n (pc := 43) (i := 3) (j := 2) E dX4_turnOfLoss_43 rfl rfl ?_
      refine tt_getI (pc := 44) E lfX4_78 rfl h3 dX4_turnOfLoss_44 ?_
      refine tt_iload (pc := 47) (i := 5) (j := 0) E dX4_turnOfLoss_47 rfl ?_
      refine tt_icmp_ge (pc := 49) (tgt := 55) E dX4_turnOfLoss_49 rfl (fun c_9 => ?_) (fun c_9 => ?_)
      · have hf := ip c_9 hf
        obtain ⟨v_8, ev_8, hf⟩ := nm_ex hf
        refine tt_iinc (pc := 55) (i := 4) (j := 3) (lv' := [(4, .int v_8), (5, .int v_1), (0, .ref (B + o0)), (3, .ref (B + o3))]) E dX4_turnOfLoss_55 rfl (ev_8).symm (Nat.le_of_ble_eq_true rfl) rfl ?_
        refine tt_goto (pc := 58) (tgt := 20) E dX4_turnOfLoss_58 rfl ?_
        refine tt_sub [2, 3, 0] (lv' := [(0, .ref (B + o0)), (3, .ref (B + o3)), (4, .int v_8)]) rfl ?_
        exact ih v_8 r_5.2 hf
      · have hf := ine c_9 hf
        refine tt_iload (pc := 52) (i := 4) (j := 3) E dX4_turnOfLoss_52 rfl ?_
        exact tt_iret (pc := 54) E hr hlk dX4_turnOfLoss_54 (Nat.le_of_ble_eq_true rfl) (Nat.le_of_ble_eq_true rfl) hf
set_option maxHeartbeats 4000000 in
theorem cX4_turnOfLoss_ok {l : Launch} {B : Nat} {D : va_G} {cT : Nat → ClassId} {n : Nat} {adK adV : Nat → Nat} {o0 : Nat} {o1 : Nat} {v2 : Int32} {μ : Mem} {res : Int32 × Mem} (h0 : isK n o0 3) (h1 : isK n o1 1) (hf : fX4_turnOfLoss o0 o1 v2 μ = some res) : MI l yX4_turnOfLoss cX4_turnOfLoss 6 (some .int) rmX4_turnOfLoss B D cT (XW B adK adV) n [.ref (B + o0), .ref (B + o1), .int v2] μ res := by
  refine tt_ofW mtX4_turnOfLoss.1 (Nat.le_of_ble_eq_true rfl) rfl ?_
  intro p e s m below meth c E0 hr hlk
  have E : EE p s m _ c cX4_turnOfLoss 6 RX4 B D cT (XW B adK adV) := E0
  unfold fX4_turnOfLoss at hf
  refine tt_aload_n (pc := 0) (i := 0) (j := 0) E dX4_turnOfLoss_0 rfl rfl ?_
  obtain ⟨q_1, hq_2, hf⟩ := bd_some hf
  refine tt_getP (pc := 1) (t := 1) E lfX4_12 rfl rfl h0 dX4_turnOfLoss_1 hq_2 (fun kq_3 => ?_)
  refine tt_aload_n (pc := 4) (i := 1) (j := 1) E dX4_turnOfLoss_4 rfl rfl ?_
  obtain ⟨r_4, hr_5, hf⟩ := bd_some hf
  have hc_6 := cX2_copyFrom_ok (l := l) (B := B) (D := D) (cT := cT) (n := n) (adK := adK) (adV := adV) kq_3 h1 hr_5
  refine tt_cV (pc := 5) (tt_vi E lmX4_29 mtX2_copyFrom hc_6 kq_3 rfl rfl (Nat.le_of_ble_eq_true rfl) ⟨(Nat.le_of_ble_eq_true rfl), (Nat.le_of_ble_eq_true rfl)⟩ ⟨(Nat.le_of_ble_eq_true rfl), (Nat.le_of_ble_eq_true rfl)⟩ dX4_turnOfLoss_5) ?_
  refine tt_aload_n (pc := 8) (i := 0) (j := 0) E dX4_turnOfLoss_8 rfl rfl ?_
  obtain ⟨q_7, hq_8, hf⟩ := bd_some hf
  refine tt_getP (pc := 9) (t := 1) E lfX4_12 rfl rfl h0 dX4_turnOfLoss_9 hq_8 (fun kq_9 => ?_)
  refine tt_iload_n (pc := 12) (i := 2) (j := 2) E dX4_turnOfLoss_12 rfl rfl ?_
  obtain ⟨r_10, hr_11, hf⟩ := bd_some hf
  have hc_12 := cX2_at_ok (l := l) (B := B) (D := D) (cT := cT) (n := n) (adK := adK) (adV := adV) kq_9 hr_11
  refine tt_cP (pc := 13) (tt_vi E lmX4_74 mtX2_at hc_12 kq_9 rfl rfl (Nat.le_of_ble_eq_true rfl) ⟨(Nat.le_of_ble_eq_true rfl), (Nat.le_of_ble_eq_true rfl)⟩ ⟨(Nat.le_of_ble_eq_true rfl), (Nat.le_of_ble_eq_true rfl)⟩ dX4_turnOfLoss_13) (fun kq_13 => ?_)
  refine tt_astore_n (pc := 16) (i := 3) (lv' := [(3, .ref (B + r_10)), (0, .ref (B + o0)), (1, .ref (B + o1)), (2, .int v2)]) E dX4_turnOfLoss_16 rfl (Nat.le_of_ble_eq_true rfl) rfl ?_
  refine tt_iconst (pc := 17) (v := 1) E dX4_turnOfLoss_17 ic_1 ?_
  refine tt_istore (pc := 18) (i := 4) (lv' := [(4, .int 1), (3, .ref (B + r_10)), (0, .ref (B + o0)), (1, .ref (B + o1)), (2, .int v2)]) E dX4_turnOfLoss_18 (Nat.le_of_ble_eq_true rfl) rfl ?_
  refine tt_sub [2, 1, 0] (lv' := [(0, .ref (B + o0)), (3, .ref (B + r_10)), (4, .int 1)]) rfl ?_
  exact tX4_turnOfLoss_20 E hr hlk h0 kq_13 FU 1 r_4 hf
set_option maxHeartbeats 4000000 in
theorem tX4_note_14 {p : Program} {l : Launch} {e : Env} {s : State} {m : MethodId} {args : Array Value} {below : List Frame} {meth : Method} {c : Code} {B : Nat} {D : va_G} {cT : Nat → ClassId} {n : Nat} {adK adV : Nat → Nat} {res : Mem} (E : EE p s m args c cX4_note 7 RX4 B D cT (XW B adK adV)) (hr : meth.sig.returnType = none) (hlk : meth.locks = false) {o0 : Nat} {v1 : Int32} {o2 : Nat} {v3 : Int32} (h0 : isK n o0 3) (h2 : isK n o2 15) : ∀ (fu : Nat) (v4 : Int32) (μ : Mem), zl2 (gX4_note_14 o0 v1 o2 v3) fu v4 μ = some res → TT p l e rmX4_note s m args below meth c (QV B D cT n below args s res) 7 B D cT n 0 0 μ 14 [(0, .ref (B + o0)), (1, .int v1), (2, .ref (B + o2)), (3, .int v3), (4, .int v4)] [] := by
  intro fu
  induction fu with
  | zero => intro v4 μ hf; exact absurd hf (fun h => by cases h)
  | succ fu ih =>
    intro v4 μ hf
    have hf : gX4_note_14 o0 v1 o2 v3 (zl2 (gX4_note_14 o0 v1 o2 v3) fu) v4 μ = some res := hf
    unfold gX4_note_14 at hf
    refine tt_iload (pc := 14) (i := 4) (j := 4) E dX4_note_14 rfl ?_
    refine tt_iload_n (pc := 16) (i := 3) (j := 3) E dX4_note_16 rfl rfl ?_
    refine tt_icmp_ge (pc := 17) (tgt := 71) E dX4_note_17 rfl (fun c_22 => ?_) (fun c_22 => ?_)
    · have hf := ip c_22 hf
      exact tt_vret (pc := 71) E hr hlk dX4_note_71 (Nat.le_of_ble_eq_true rfl) (Nat.le_of_ble_eq_true rfl) hf
    · have hf := ine c_22 hf
      refine tt_aload_n (pc := 20) (i := 2) (j := 2) E dX4_note_20 rfl rfl ?_
      refine tt_iload (pc := 21) (i := 4) (j := 4) E dX4_note_21 rfl ?_
      obtain ⟨g_1, hf⟩ := gd_some hf
      obtain ⟨q_2, hq_3, hf⟩ := bd_some hf
      refine tt_aald15 (pc := 23) E h2 g_1 dX4_note_23 hq_3 (fun kq_4 => ?_)
      refine tt_astore (pc := 24) (i := 5) (lv' := [(5, .ref (B + q_2)), (0, .ref (B + o0)), (1, .int v1), (2, .ref (B + o2)), (3, .int v3), (4, .int v4)]) E dX4_note_24 (Nat.le_of_ble_eq_true rfl) rfl ?_
      refine tt_iload_n (pc := 26) (i := 1) (j := 2) E dX4_note_26 rfl rfl ?_
      refine tt_bipush (pc := 27) (v := 8) E dX4_note_27 bc_8 ?_
      refine tt_imul (pc := 29) E dX4_note_29 ?_
      refine tt_aload (pc := 30) (i := 5) (j := 0) E dX4_note_30 rfl ?_
      refine tt_getI (pc := 32) E lfX4_92 rfl kq_4 dX4_note_32 ?_
      refine tt_iadd (pc := 35) E dX4_note_35 ?_
      refine tt_nmI hf (fun v_5 hf => ?_)
      refine tt_istore (pc := 36) (i := 6) (lv' := [(6, .int v_5), (5, .ref (B + q_2)), (0, .ref (B + o0)), (1, .int v1), (2, .ref (B + o2)), (3, .int v3), (4, .int v4)]) E dX4_note_36 (Nat.le_of_ble_eq_true rfl) rfl ?_
      refine tt_iload (pc := 38) (i := 6) (j := 0) E dX4_note_38 rfl ?_
      refine tt_if_lt (pc := 40) (tgt := 65) E dX4_note_40 rfl (fun c_21 => ?_) (fun c_21 => ?_)
      · have hf := ip c_21 hf
        obtain ⟨v_6, ev_6, hf⟩ := nm_ex hf
        refine tt_iinc (pc := 65) (i := 4) (j := 6) (lv' := [(4, .int v_6), (6, .int v_5), (5, .ref (B + q_2)), (0, .ref (B + o0)), (1, .int v1), (2, .ref (B + o2)), (3, .int v3)]) E dX4_note_65 rfl (ev_6).symm (Nat.le_of_ble_eq_true rfl) rfl ?_
        refine tt_goto (pc := 68) (tgt := 14) E dX4_note_68 rfl ?_
        refine tt_sub [3, 4, 5, 6, 0] (lv' := [(0, .ref (B + o0)), (1, .int v1), (2, .ref (B + o2)), (3, .int v3), (4, .int v_6)]) rfl ?_
        exact ih v_6 μ hf
      · have hf := ine c_21 hf
        refine tt_iload (pc := 43) (i := 6) (j := 0) E dX4_note_43 rfl ?_
        refine tt_aload_n (pc := 45) (i := 0) (j := 2) E dX4_note_45 rfl rfl ?_
        obtain ⟨q_7, hq_8, hf⟩ := bd_some hf
        refine tt_getP (pc := 46) (t := 12) E lfX4_18 rfl rfl h0 dX4_note_46 hq_8 (fun kq_9 => ?_)
        refine tt_alen (pc := 49) (v := Int32.ofNat (Ln q_7)) E (k := 12) ⟨(Nat.le_of_ble_eq_true rfl), (Nat.le_of_ble_eq_true rfl)⟩ kq_9 rfl dX4_note_49 ?_
        refine tt_icmp_ge (pc := 50) (tgt := 65) E dX4_note_50 rfl (fun c_20 => ?_) (fun c_20 => ?_)
        · have hf := ip c_20 hf
          obtain ⟨v_10, ev_10, hf⟩ := nm_ex hf
          refine tt_iinc (pc := 65) (i := 4) (j := 6) (lv' := [(4, .int v_10), (6, .int v_5), (5, .ref (B + q_2)), (0, .ref (B + o0)), (1, .int v1), (2, .ref (B + o2)), (3, .int v3)]) E dX4_note_65 rfl (ev_10).symm (Nat.le_of_ble_eq_true rfl) rfl ?_
          refine tt_goto (pc := 68) (tgt := 14) E dX4_note_68 rfl ?_
          refine tt_sub [3, 4, 5, 6, 0] (lv' := [(0, .ref (B + o0)), (1, .int v1), (2, .ref (B + o2)), (3, .int v3), (4, .int v_10)]) rfl ?_
          exact ih v_10 μ hf
        · have hf := ine c_20 hf
          refine tt_aload_n (pc := 53) (i := 0) (j := 2) E dX4_note_53 rfl rfl ?_
          obtain ⟨q_11, hq_12, hf⟩ := bd_some hf
          refine tt_getP (pc := 54) (t := 12) E lfX4_18 rfl rfl h0 dX4_note_54 hq_12 (fun kq_13 => ?_)
          refine tt_iload (pc := 57) (i := 6) (j := 0) E dX4_note_57 rfl ?_
          refine tt_aload (pc := 59) (i := 5) (j := 1) E dX4_note_59 rfl ?_
          obtain ⟨r_14, hr_15, hf⟩ := bd_some hf
          have hc_16 := cX3_likeness_ok (l := l) (B := B) (D := D) (cT := cT) (n := n) (adK := adK) (adV := adV) kq_4 hr_15
          refine tt_cJ (pc := 61) (tt_vi E lmX4_95 mtX3_likeness hc_16 kq_4 rfl rfl (Nat.le_of_ble_eq_true rfl) ⟨(Nat.le_of_ble_eq_true rfl), (Nat.le_of_ble_eq_true rfl)⟩ ⟨(Nat.le_of_ble_eq_true rfl), (Nat.le_of_ble_eq_true rfl)⟩ dX4_note_61) ?_
          obtain ⟨g_18, hf⟩ := gd_some hf
          refine tt_last (pc := 64) E kq_13 g_18 dX4_note_64 (tt_nmM hf (fun m_17 hf => ?_))
          obtain ⟨v_19, ev_19, hf⟩ := nm_ex hf
          refine tt_iinc (pc := 65) (i := 4) (j := 6) (lv' := [(4, .int v_19), (6, .int v_5), (5, .ref (B + q_2)), (0, .ref (B + o0)), (1, .int v1), (2, .ref (B + o2)), (3, .int v3)]) E dX4_note_65 rfl (ev_19).symm (Nat.le_of_ble_eq_true rfl) rfl ?_
          refine tt_goto (pc := 68) (tgt := 14) E dX4_note_68 rfl ?_
          refine tt_sub [3, 4, 5, 6, 0] (lv' := [(0, .ref (B + o0)), (1, .int v1), (2, .ref (B + o2)), (3, .int v3), (4, .int v_19)]) rfl ?_
          exact ih v_19 m_17 hf
set_option maxHeartbeats 4000000 in
theorem cX4_note_ok {l : Launch} {B : Nat} {D : va_G} {cT : Nat → ClassId} {n : Nat} {adK adV : Nat → Nat} {o0 : Nat} {v1 : Int32} {μ : Mem} {res : Mem} (h0 : isK n o0 3) (hf : fX4_note o0 v1 μ = some res) : MV l yX4_note cX4_note 7 (none) rmX4_note B D cT (XW B adK adV) n [.ref (B + o0), .int v1] μ res := by
  refine tt_ofW mtX4_note.1 (Nat.le_of_ble_eq_true rfl) rfl ?_
  intro p e s m below meth c E0 hr hlk
  have E : EE p s m _ c cX4_note 7 RX4 B D cT (XW B adK adV) := E0
  unfold fX4_note at hf
  refine tt_aload_n (pc := 0) (i := 0) (j := 0) E dX4_note_0 rfl rfl ?_
  obtain ⟨q_1, hq_2, hf⟩ := bd_some hf
  refine tt_getP (pc := 1) (t := 1) E lfX4_12 rfl rfl h0 dX4_note_1 hq_2 (fun kq_3 => ?_)
  obtain ⟨q_4, hq_5, hf⟩ := bd_some hf
  refine tt_getP (pc := 4) (t := 15) E lfX4_88 rfl rfl kq_3 dX4_note_4 hq_5 (fun kq_6 => ?_)
  refine tt_astore_n (pc := 7) (i := 2) (lv' := [(2, .ref (B + q_4)), (0, .ref (B + o0)), (1, .int v1)]) E dX4_note_7 rfl (Nat.le_of_ble_eq_true rfl) rfl ?_
  refine tt_aload_n (pc := 8) (i := 2) (j := 0) E dX4_note_8 rfl rfl ?_
  refine tt_alen (pc := 9) (v := Int32.ofNat (Ln q_4)) E (k := 15) ⟨(Nat.le_of_ble_eq_true rfl), (Nat.le_of_ble_eq_true rfl)⟩ kq_6 rfl dX4_note_9 ?_
  refine tt_nmI hf (fun v_7 hf => ?_)
  refine tt_istore_n (pc := 10) (i := 3) (lv' := [(3, .int v_7), (2, .ref (B + q_4)), (0, .ref (B + o0)), (1, .int v1)]) E dX4_note_10 rfl (Nat.le_of_ble_eq_true rfl) rfl ?_
  refine tt_iconst (pc := 11) (v := 0) E dX4_note_11 ic_0 ?_
  refine tt_istore (pc := 12) (i := 4) (lv' := [(4, .int 0), (3, .int v_7), (2, .ref (B + q_4)), (0, .ref (B + o0)), (1, .int v1)]) E dX4_note_12 (Nat.le_of_ble_eq_true rfl) rfl ?_
  refine tt_sub [3, 4, 2, 1, 0] (lv' := [(0, .ref (B + o0)), (1, .int v1), (2, .ref (B + q_4)), (3, .int v_7), (4, .int 0)]) rfl ?_
  exact tX4_note_14 E hr hlk h0 kq_6 FU 0 μ hf
set_option maxHeartbeats 4000000 in
theorem tX4_isSame_36 {p : Program} {l : Launch} {e : Env} {s : State} {m : MethodId} {args : Array Value} {below : List Frame} {meth : Method} {c : Code} {B : Nat} {D : va_G} {cT : Nat → ClassId} {n : Nat} {adK adV : Nat → Nat} {res : Int32} (E : EE p s m args c cX4_isSame 4 RX4 B D cT (XW B adK adV)) (hr : meth.sig.returnType = some .boolean) (hlk : meth.locks = false) {o0 : Nat} {v1 : Int32} {v2 : Int32} (h0 : isK n o0 3) {μ : Mem} : ∀ (fu : Nat) (v3 : Int32), zl1 (gX4_isSame_36 o0 v1 v2 μ) fu v3 = some res → TT p l e rmX4_isSame s m args below meth c (QZ B D cT n below args s (res, μ)) 4 B D cT n 0 0 μ 36 [(0, .ref (B + o0)), (1, .int v1), (2, .int v2), (3, .int v3)] [] := by
  intro fu
  induction fu with
  | zero => intro v3 hf; exact absurd hf (fun h => by cases h)
  | succ fu ih =>
    intro v3 hf
    have hf : gX4_isSame_36 o0 v1 v2 μ (zl1 (gX4_isSame_36 o0 v1 v2 μ) fu) v3 = some res := hf
    unfold gX4_isSame_36 at hf
    refine tt_iload_n (pc := 36) (i := 3) (j := 3) E dX4_isSame_36 rfl rfl ?_
    refine tt_bipush (pc := 37) (v := 8) E dX4_isSame_37 bc_8 ?_
    refine tt_icmp_ge (pc := 39) (tgt := 70) E dX4_isSame_39 rfl (fun c_11 => ?_) (fun c_11 => ?_)
    · have hf := ip c_11 hf
      refine tt_iconst (pc := 70) (v := 1) E dX4_isSame_70 ic_1 ?_
      exact tt_zret (pc := 71) E ((Or.inr rfl)) hr hlk dX4_isSame_71 (Nat.le_of_ble_eq_true rfl) (Nat.le_of_ble_eq_true rfl) (pv hf)
    · have hf := ine c_11 hf
      refine tt_aload_n (pc := 42) (i := 0) (j := 0) E dX4_isSame_42 rfl rfl ?_
      obtain ⟨q_1, hq_2, hf⟩ := bd_some hf
      refine tt_getP (pc := 43) (t := 12) E lfX4_18 rfl rfl h0 dX4_isSame_43 hq_2 (fun kq_3 => ?_)
      refine tt_iload_n (pc := 46) (i := 1) (j := 1) E dX4_isSame_46 rfl rfl ?_
      refine tt_iload_n (pc := 47) (i := 3) (j := 3) E dX4_isSame_47 rfl rfl ?_
      refine tt_iadd (pc := 48) E dX4_isSame_48 ?_
      obtain ⟨g_4, hf⟩ := gd_some hf
      refine tt_lald (pc := 49) E kq_3 g_4 dX4_isSame_49 ?_
      refine tt_aload_n (pc := 50) (i := 0) (j := 0) E dX4_isSame_50 rfl rfl ?_
      obtain ⟨q_5, hq_6, hf⟩ := bd_some hf
      refine tt_getP (pc := 51) (t := 12) E lfX4_18 rfl rfl h0 dX4_isSame_51 hq_6 (fun kq_7 => ?_)
      refine tt_iload_n (pc := 54) (i := 2) (j := 2) E dX4_isSame_54 rfl rfl ?_
      refine tt_iload_n (pc := 55) (i := 3) (j := 3) E dX4_isSame_55 rfl rfl ?_
      refine tt_iadd (pc := 56) E dX4_isSame_56 ?_
      obtain ⟨g_8, hf⟩ := gd_some hf
      refine tt_lald (pc := 57) E kq_7 g_8 dX4_isSame_57 ?_
      refine tt_lcmp (pc := 58) E dX4_isSame_58 ?_
      refine tt_if_eq (pc := 59) (tgt := 64) E dX4_isSame_59 rfl (fun c_10 => ?_) (fun c_10 => ?_)
      · have hf := ip c_10 hf
        obtain ⟨v_9, ev_9, hf⟩ := nm_ex hf
        refine tt_iinc (pc := 64) (i := 3) (j := 3) (lv' := [(3, .int v_9), (0, .ref (B + o0)), (1, .int v1), (2, .int v2)]) E dX4_isSame_64 rfl (ev_9).symm (Nat.le_of_ble_eq_true rfl) rfl ?_
        refine tt_goto (pc := 67) (tgt := 36) E dX4_isSame_67 rfl ?_
        refine tt_sub [1, 2, 3, 0] (lv' := [(0, .ref (B + o0)), (1, .int v1), (2, .int v2), (3, .int v_9)]) rfl ?_
        exact ih v_9 hf
      · have hf := ine c_10 hf
        refine tt_iconst (pc := 62) (v := 0) E dX4_isSame_62 ic_0 ?_
        exact tt_zret (pc := 63) E ((Or.inl rfl)) hr hlk dX4_isSame_63 (Nat.le_of_ble_eq_true rfl) (Nat.le_of_ble_eq_true rfl) (pv hf)
set_option maxHeartbeats 4000000 in
theorem cX4_isSame_ok {l : Launch} {B : Nat} {D : va_G} {cT : Nat → ClassId} {n : Nat} {adK adV : Nat → Nat} {o0 : Nat} {v1 : Int32} {v2 : Int32} {μ : Mem} {res : Int32} (h0 : isK n o0 3) (hf : fX4_isSame o0 v1 v2 μ = some res) : MZ l yX4_isSame cX4_isSame 4 (some .boolean) rmX4_isSame B D cT (XW B adK adV) n [.ref (B + o0), .int v1, .int v2] μ (res, μ) := by
  refine tt_ofW mtX4_isSame.1 (Nat.le_of_ble_eq_true rfl) rfl ?_
  intro p e s m below meth c E0 hr hlk
  have E : EE p s m _ c cX4_isSame 4 RX4 B D cT (XW B adK adV) := E0
  unfold fX4_isSame at hf
  refine tt_iload_n (pc := 0) (i := 1) (j := 1) E dX4_isSame_0 rfl rfl ?_
  refine tt_if_lt (pc := 1) (tgt := 32) E dX4_isSame_1 rfl (fun c_10 => ?_) (fun c_10 => ?_)
  · have hf := ip c_10 hf
    refine tt_iconst (pc := 32) (v := 0) E dX4_isSame_32 ic_0 ?_
    exact tt_zret (pc := 33) E ((Or.inl rfl)) hr hlk dX4_isSame_33 (Nat.le_of_ble_eq_true rfl) (Nat.le_of_ble_eq_true rfl) (pv hf)
  · have hf := ine c_10 hf
    refine tt_iload_n (pc := 4) (i := 2) (j := 2) E dX4_isSame_4 rfl rfl ?_
    refine tt_if_lt (pc := 5) (tgt := 32) E dX4_isSame_5 rfl (fun c_9 => ?_) (fun c_9 => ?_)
    · have hf := ip c_9 hf
      refine tt_iconst (pc := 32) (v := 0) E dX4_isSame_32 ic_0 ?_
      exact tt_zret (pc := 33) E ((Or.inl rfl)) hr hlk dX4_isSame_33 (Nat.le_of_ble_eq_true rfl) (Nat.le_of_ble_eq_true rfl) (pv hf)
    · have hf := ine c_9 hf
      refine tt_iload_n (pc := 8) (i := 1) (j := 1) E dX4_isSame_8 rfl rfl ?_
      refine tt_aload_n (pc := 9) (i := 0) (j := 0) E dX4_isSame_9 rfl rfl ?_
      obtain ⟨q_1, hq_2, hf⟩ := bd_some hf
      refine tt_getP (pc := 10) (t := 12) E lfX4_18 rfl rfl h0 dX4_isSame_10 hq_2 (fun kq_3 => ?_)
      refine tt_alen (pc := 13) (v := Int32.ofNat (Ln q_1)) E (k := 12) ⟨(Nat.le_of_ble_eq_true rfl), (Nat.le_of_ble_eq_true rfl)⟩ kq_3 rfl dX4_isSame_13 ?_
      refine tt_bipush (pc := 14) (v := 8) E dX4_isSame_14 bc_8 ?_
      refine tt_isub (pc := 16) E dX4_isSame_16 ?_
      refine tt_icmp_gt (pc := 17) (tgt := 32) E dX4_isSame_17 rfl (fun c_8 => ?_) (fun c_8 => ?_)
      · have hf := ip c_8 hf
        refine tt_iconst (pc := 32) (v := 0) E dX4_isSame_32 ic_0 ?_
        exact tt_zret (pc := 33) E ((Or.inl rfl)) hr hlk dX4_isSame_33 (Nat.le_of_ble_eq_true rfl) (Nat.le_of_ble_eq_true rfl) (pv hf)
      · have hf := ine c_8 hf
        refine tt_iload_n (pc := 20) (i := 2) (j := 2) E dX4_isSame_20 rfl rfl ?_
        refine tt_aload_n (pc := 21) (i := 0) (j := 0) E dX4_isSame_21 rfl rfl ?_
        obtain ⟨q_4, hq_5, hf⟩ := bd_some hf
        refine tt_getP (pc := 22) (t := 12) E lfX4_18 rfl rfl h0 dX4_isSame_22 hq_5 (fun kq_6 => ?_)
        refine tt_alen (pc := 25) (v := Int32.ofNat (Ln q_4)) E (k := 12) ⟨(Nat.le_of_ble_eq_true rfl), (Nat.le_of_ble_eq_true rfl)⟩ kq_6 rfl dX4_isSame_25 ?_
        refine tt_bipush (pc := 26) (v := 8) E dX4_isSame_26 bc_8 ?_
        refine tt_isub (pc := 28) E dX4_isSame_28 ?_
        refine tt_icmp_le (pc := 29) (tgt := 34) E dX4_isSame_29 rfl (fun c_7 => ?_) (fun c_7 => ?_)
        · have hf := ip c_7 hf
          refine tt_iconst (pc := 34) (v := 0) E dX4_isSame_34 ic_0 ?_
          refine tt_istore_n (pc := 35) (i := 3) (lv' := [(3, .int 0), (0, .ref (B + o0)), (1, .int v1), (2, .int v2)]) E dX4_isSame_35 rfl (Nat.le_of_ble_eq_true rfl) rfl ?_
          refine tt_sub [1, 2, 3, 0] (lv' := [(0, .ref (B + o0)), (1, .int v1), (2, .int v2), (3, .int 0)]) rfl ?_
          exact tX4_isSame_36 E hr hlk h0 FU 0 hf
        · have hf := ine c_7 hf
          refine tt_iconst (pc := 32) (v := 0) E dX4_isSame_32 ic_0 ?_
          exact tt_zret (pc := 33) E ((Or.inl rfl)) hr hlk dX4_isSame_33 (Nat.le_of_ble_eq_true rfl) (Nat.le_of_ble_eq_true rfl) (pv hf)
set_option maxHeartbeats 4000000 in
theorem tX4_sameBefore_4 {p : Program} {l : Launch} {e : Env} {s : State} {m : MethodId} {args : Array Value} {below : List Frame} {meth : Method} {c : Code} {B : Nat} {D : va_G} {cT : Nat → ClassId} {n : Nat} {adK adV : Nat → Nat} {res : Int32} (E : EE p s m args c cX4_sameBefore 3 RX4 B D cT (XW B adK adV)) (hr : meth.sig.returnType = some .int) (hlk : meth.locks = false) {o0 : Nat} {v1 : Int32} (h0 : isK n o0 3) {μ : Mem} : ∀ (fu : Nat) (v2 : Int32), zl1 (gX4_sameBefore_4 o0 v1 μ) fu v2 = some res → TT p l e rmX4_sameBefore s m args below meth c (QI B D cT n below args s (res, μ)) 3 B D cT n 0 0 μ 4 [(0, .ref (B + o0)), (1, .int v1), (2, .int v2)] [] := by
  intro fu
  induction fu with
  | zero => intro v2 hf; exact absurd hf (fun h => by cases h)
  | succ fu ih =>
    intro v2 hf
    have hf : gX4_sameBefore_4 o0 v1 μ (zl1 (gX4_sameBefore_4 o0 v1 μ) fu) v2 = some res := hf
    unfold gX4_sameBefore_4 at hf
    refine tt_iload_n (pc := 4) (i := 2) (j := 2) E dX4_sameBefore_4 rfl rfl ?_
    refine tt_if_lt (pc := 5) (tgt := 31) E dX4_sameBefore_5 rfl (fun c_7 => ?_) (fun c_7 => ?_)
    · have hf := ip c_7 hf
      refine tt_iconst (pc := 31) (v := (-1)) E dX4_sameBefore_31 ic_m1 ?_
      exact tt_iret (pc := 32) E hr hlk dX4_sameBefore_32 (Nat.le_of_ble_eq_true rfl) (Nat.le_of_ble_eq_true rfl) (pv hf)
    · have hf := ine c_7 hf
      refine tt_aload_n (pc := 8) (i := 0) (j := 0) E dX4_sameBefore_8 rfl rfl ?_
      refine tt_iload_n (pc := 9) (i := 2) (j := 2) E dX4_sameBefore_9 rfl rfl ?_
      refine tt_bipush (pc := 10) (v := 8) E dX4_sameBefore_10 bc_8 ?_
      refine tt_imul (pc := 12) E dX4_sameBefore_12 ?_
      refine tt_iload_n (pc := 13) (i := 1) (j := 1) E dX4_sameBefore_13 rfl rfl ?_
      refine tt_bipush (pc := 14) (v := 8) E dX4_sameBefore_14 bc_8 ?_
      refine tt_imul (pc := 16) E dX4_sameBefore_16 ?_
      obtain ⟨r_1, hr_2, hf⟩ := bd_some hf
      have hc_3 := cX4_isSame_ok (l := l) (B := B) (D := D) (cT := cT) (n := n) (adK := adK) (adV := adV) h0 hr_2
      refine tt_cZ (pc := 17) (tt_vi E lmX4_99 mtX4_isSame hc_3 h0 rfl rfl (Nat.le_of_ble_eq_true rfl) ⟨(Nat.le_of_ble_eq_true rfl), (Nat.le_of_ble_eq_true rfl)⟩ ⟨(Nat.le_of_ble_eq_true rfl), (Nat.le_of_ble_eq_true rfl)⟩ dX4_sameBefore_17) (fun z_4 => ?_)
      refine tt_if_eq (pc := 20) (tgt := 25) E dX4_sameBefore_20 rfl (fun c_6 => ?_) (fun c_6 => ?_)
      · have hf := ip c_6 hf
        obtain ⟨v_5, ev_5, hf⟩ := nm_ex hf
        refine tt_iinc (pc := 25) (i := 2) (j := 2) (lv' := [(2, .int v_5), (0, .ref (B + o0)), (1, .int v1)]) E dX4_sameBefore_25 rfl (ev_5).symm (Nat.le_of_ble_eq_true rfl) rfl ?_
        refine tt_goto (pc := 28) (tgt := 4) E dX4_sameBefore_28 rfl ?_
        refine tt_sub [1, 2, 0] (lv' := [(0, .ref (B + o0)), (1, .int v1), (2, .int v_5)]) rfl ?_
        exact ih v_5 hf
      · have hf := ine c_6 hf
        refine tt_iload_n (pc := 23) (i := 2) (j := 2) E dX4_sameBefore_23 rfl rfl ?_
        exact tt_iret (pc := 24) E hr hlk dX4_sameBefore_24 (Nat.le_of_ble_eq_true rfl) (Nat.le_of_ble_eq_true rfl) (pv hf)
set_option maxHeartbeats 4000000 in
theorem cX4_sameBefore_ok {l : Launch} {B : Nat} {D : va_G} {cT : Nat → ClassId} {n : Nat} {adK adV : Nat → Nat} {o0 : Nat} {v1 : Int32} {μ : Mem} {res : Int32} (h0 : isK n o0 3) (hf : fX4_sameBefore o0 v1 μ = some res) : MI l yX4_sameBefore cX4_sameBefore 3 (some .int) rmX4_sameBefore B D cT (XW B adK adV) n [.ref (B + o0), .int v1] μ (res, μ) := by
  refine tt_ofW mtX4_sameBefore.1 (Nat.le_of_ble_eq_true rfl) rfl ?_
  intro p e s m below meth c E0 hr hlk
  have E : EE p s m _ c cX4_sameBefore 3 RX4 B D cT (XW B adK adV) := E0
  unfold fX4_sameBefore at hf
  refine tt_iload_n (pc := 0) (i := 1) (j := 1) E dX4_sameBefore_0 rfl rfl ?_
  refine tt_iconst (pc := 1) (v := 1) E dX4_sameBefore_1 ic_1 ?_
  refine tt_isub (pc := 2) E dX4_sameBefore_2 ?_
  refine tt_nmI hf (fun v_1 hf => ?_)
  refine tt_istore_n (pc := 3) (i := 2) (lv' := [(2, .int v_1), (0, .ref (B + o0)), (1, .int v1)]) E dX4_sameBefore_3 rfl (Nat.le_of_ble_eq_true rfl) rfl ?_
  refine tt_sub [1, 2, 0] (lv' := [(0, .ref (B + o0)), (1, .int v1), (2, .int v_1)]) rfl ?_
  exact tX4_sameBefore_4 E hr hlk h0 FU v_1 hf
set_option maxHeartbeats 4000000 in
theorem tX4_findRepeat_25 {p : Program} {l : Launch} {e : Env} {s : State} {m : MethodId} {args : Array Value} {below : List Frame} {meth : Method} {c : Code} {B : Nat} {D : va_G} {cT : Nat → ClassId} {n : Nat} {adK adV : Nat → Nat} {res : Mem} (E : EE p s m args c cX4_findRepeat 4 RX4 B D cT (XW B adK adV)) (hr : meth.sig.returnType = none) (hlk : meth.locks = false) {o0 : Nat} (h0 : isK n o0 3) : ∀ (fu : Nat) (v2 : Int32) (μ : Mem), zl2 (gX4_findRepeat_25 o0) fu v2 μ = some res → TT p l e rmX4_findRepeat s m args below meth c (QV B D cT n below args s res) 4 B D cT n 0 0 μ 25 [(0, .ref (B + o0)), (2, .int v2)] [] := by
  intro fu
  induction fu with
  | zero => intro v2 μ hf; exact absurd hf (fun h => by cases h)
  | succ fu ih =>
    intro v2 μ hf
    have hf : gX4_findRepeat_25 o0 (zl2 (gX4_findRepeat_25 o0) fu) v2 μ = some res := hf
    unfold gX4_findRepeat_25 at hf
    refine tt_iload_n (pc := 25) (i := 2) (j := 1) E dX4_findRepeat_25 rfl rfl ?_
    refine tt_sipush (pc := 26) (v := 200) E dX4_findRepeat_26 sc_200 ?_
    refine tt_icmp_gt (pc := 29) (tgt := 80) E dX4_findRepeat_29 rfl (fun c_18 => ?_) (fun c_18 => ?_)
    · have hf := ip c_18 hf
      exact tt_vret (pc := 80) E hr hlk dX4_findRepeat_80 (Nat.le_of_ble_eq_true rfl) (Nat.le_of_ble_eq_true rfl) hf
    · have hf := ine c_18 hf
      refine tt_aload_n (pc := 32) (i := 0) (j := 0) E dX4_findRepeat_32 rfl rfl ?_
      obtain ⟨q_1, hq_2, hf⟩ := bd_some hf
      refine tt_getP (pc := 33) (t := 1) E lfX4_12 rfl rfl h0 dX4_findRepeat_33 hq_2 (fun kq_3 => ?_)
      refine tt_iconst (pc := 36) (v := 1) E dX4_findRepeat_36 ic_1 ?_
      obtain ⟨r_4, hr_5, hf⟩ := bd_some hf
      have hc_6 := cX2_playOn_ok (l := l) (B := B) (D := D) (cT := cT) (n := n) (adK := adK) (adV := adV) kq_3 hr_5
      refine tt_cI (pc := 37) (tt_vi E lmX4_33 mtX2_playOn hc_6 kq_3 rfl rfl (Nat.le_of_ble_eq_true rfl) ⟨(Nat.le_of_ble_eq_true rfl), (Nat.le_of_ble_eq_true rfl)⟩ ⟨(Nat.le_of_ble_eq_true rfl), (Nat.le_of_ble_eq_true rfl)⟩ dX4_findRepeat_37) ?_
      refine tt_iconst (pc := 40) (v := 1) E dX4_findRepeat_40 ic_1 ?_
      refine tt_icmp_ge (pc := 41) (tgt := 45) E dX4_findRepeat_41 rfl (fun c_17 => ?_) (fun c_17 => ?_)
      · have hf := ip c_17 hf
        refine tt_aload_n (pc := 45) (i := 0) (j := 0) E dX4_findRepeat_45 rfl rfl ?_
        refine tt_iload_n (pc := 46) (i := 2) (j := 1) E dX4_findRepeat_46 rfl rfl ?_
        obtain ⟨r_7, hr_8, hf⟩ := bd_some hf
        have hc_9 := cX4_note_ok (l := l) (B := B) (D := D) (cT := cT) (n := n) (adK := adK) (adV := adV) h0 hr_8
        refine tt_cV (pc := 47) (tt_vi E lmX4_81 mtX4_note hc_9 h0 rfl rfl (Nat.le_of_ble_eq_true rfl) ⟨(Nat.le_of_ble_eq_true rfl), (Nat.le_of_ble_eq_true rfl)⟩ ⟨(Nat.le_of_ble_eq_true rfl), (Nat.le_of_ble_eq_true rfl)⟩ dX4_findRepeat_47) ?_
        refine tt_aload_n (pc := 50) (i := 0) (j := 0) E dX4_findRepeat_50 rfl rfl ?_
        refine tt_iload_n (pc := 51) (i := 2) (j := 1) E dX4_findRepeat_51 rfl rfl ?_
        obtain ⟨r_10, hr_11, hf⟩ := bd_some hf
        have hc_12 := cX4_sameBefore_ok (l := l) (B := B) (D := D) (cT := cT) (n := n) (adK := adK) (adV := adV) h0 hr_11
        refine tt_cI (pc := 52) (tt_vi E lmX4_85 mtX4_sameBefore hc_12 h0 rfl rfl (Nat.le_of_ble_eq_true rfl) ⟨(Nat.le_of_ble_eq_true rfl), (Nat.le_of_ble_eq_true rfl)⟩ ⟨(Nat.le_of_ble_eq_true rfl), (Nat.le_of_ble_eq_true rfl)⟩ dX4_findRepeat_52) ?_
        refine tt_istore_n (pc := 55) (i := 3) (lv' := [(3, .int r_10), (0, .ref (B + o0)), (2, .int v2)]) E dX4_findRepeat_55 rfl (Nat.le_of_ble_eq_true rfl) rfl ?_
        refine tt_iload_n (pc := 56) (i := 3) (j := 0) E dX4_findRepeat_56 rfl rfl ?_
        refine tt_iconst (pc := 57) (v := (-1)) E dX4_findRepeat_57 ic_m1 ?_
        refine tt_icmp_eq (pc := 58) (tgt := 74) E dX4_findRepeat_58 rfl (fun c_16 => ?_) (fun c_16 => ?_)
        · have hf := ip c_16 hf
          obtain ⟨v_13, ev_13, hf⟩ := nm_ex hf
          refine tt_iinc (pc := 74) (i := 2) (j := 2) (lv' := [(2, .int v_13), (3, .int r_10), (0, .ref (B + o0))]) E dX4_findRepeat_74 rfl (ev_13).symm (Nat.le_of_ble_eq_true rfl) rfl ?_
          refine tt_goto (pc := 77) (tgt := 25) E dX4_findRepeat_77 rfl ?_
          refine tt_sub [2, 0] (lv' := [(0, .ref (B + o0)), (2, .int v_13)]) rfl ?_
          exact ih v_13 r_7 hf
        · have hf := ine c_16 hf
          refine tt_aload_n (pc := 61) (i := 0) (j := 1) E dX4_findRepeat_61 rfl rfl ?_
          refine tt_iload_n (pc := 62) (i := 2) (j := 2) E dX4_findRepeat_62 rfl rfl ?_
          refine tt_putI (pc := 63) E lfX4_22 rfl h0 dX4_findRepeat_63 (tt_nmM hf (fun m_14 hf => ?_))
          refine tt_aload_n (pc := 66) (i := 0) (j := 1) E dX4_findRepeat_66 rfl rfl ?_
          refine tt_iload_n (pc := 67) (i := 2) (j := 2) E dX4_findRepeat_67 rfl rfl ?_
          refine tt_iload_n (pc := 68) (i := 3) (j := 0) E dX4_findRepeat_68 rfl rfl ?_
          refine tt_isub (pc := 69) E dX4_findRepeat_69 ?_
          refine tt_putI (pc := 70) E lfX4_26 rfl h0 dX4_findRepeat_70 (tt_nmM hf (fun m_15 hf => ?_))
          exact tt_vret (pc := 73) E hr hlk dX4_findRepeat_73 (Nat.le_of_ble_eq_true rfl) (Nat.le_of_ble_eq_true rfl) hf
      · have hf := ine c_17 hf
        exact tt_vret (pc := 44) E hr hlk dX4_findRepeat_44 (Nat.le_of_ble_eq_true rfl) (Nat.le_of_ble_eq_true rfl) hf
set_option maxHeartbeats 4000000 in
theorem cX4_findRepeat_ok {l : Launch} {B : Nat} {D : va_G} {cT : Nat → ClassId} {n : Nat} {adK adV : Nat → Nat} {o0 : Nat} {o1 : Nat} {μ : Mem} {res : Mem} (h0 : isK n o0 3) (h1 : isK n o1 1) (hf : fX4_findRepeat o0 o1 μ = some res) : MV l yX4_findRepeat cX4_findRepeat 4 (none) rmX4_findRepeat B D cT (XW B adK adV) n [.ref (B + o0), .ref (B + o1)] μ res := by
  refine tt_ofW mtX4_findRepeat.1 (Nat.le_of_ble_eq_true rfl) rfl ?_
  intro p e s m below meth c E0 hr hlk
  have E : EE p s m _ c cX4_findRepeat 4 RX4 B D cT (XW B adK adV) := E0
  unfold fX4_findRepeat at hf
  refine tt_aload_n (pc := 0) (i := 0) (j := 0) E dX4_findRepeat_0 rfl rfl ?_
  refine tt_iconst (pc := 1) (v := (-1)) E dX4_findRepeat_1 ic_m1 ?_
  refine tt_putI (pc := 2) E lfX4_22 rfl h0 dX4_findRepeat_2 (tt_nmM hf (fun m_1 hf => ?_))
  refine tt_aload_n (pc := 5) (i := 0) (j := 0) E dX4_findRepeat_5 rfl rfl ?_
  refine tt_iconst (pc := 6) (v := (-1)) E dX4_findRepeat_6 ic_m1 ?_
  refine tt_putI (pc := 7) E lfX4_26 rfl h0 dX4_findRepeat_7 (tt_nmM hf (fun m_2 hf => ?_))
  refine tt_aload_n (pc := 10) (i := 0) (j := 0) E dX4_findRepeat_10 rfl rfl ?_
  obtain ⟨q_3, hq_4, hf⟩ := bd_some hf
  refine tt_getP (pc := 11) (t := 1) E lfX4_12 rfl rfl h0 dX4_findRepeat_11 hq_4 (fun kq_5 => ?_)
  refine tt_aload_n (pc := 14) (i := 1) (j := 1) E dX4_findRepeat_14 rfl rfl ?_
  obtain ⟨r_6, hr_7, hf⟩ := bd_some hf
  have hc_8 := cX2_copyFrom_ok (l := l) (B := B) (D := D) (cT := cT) (n := n) (adK := adK) (adV := adV) kq_5 h1 hr_7
  refine tt_cV (pc := 15) (tt_vi E lmX4_29 mtX2_copyFrom hc_8 kq_5 rfl rfl (Nat.le_of_ble_eq_true rfl) ⟨(Nat.le_of_ble_eq_true rfl), (Nat.le_of_ble_eq_true rfl)⟩ ⟨(Nat.le_of_ble_eq_true rfl), (Nat.le_of_ble_eq_true rfl)⟩ dX4_findRepeat_15) ?_
  refine tt_aload_n (pc := 18) (i := 0) (j := 0) E dX4_findRepeat_18 rfl rfl ?_
  refine tt_iconst (pc := 19) (v := 0) E dX4_findRepeat_19 ic_0 ?_
  obtain ⟨r_9, hr_10, hf⟩ := bd_some hf
  have hc_11 := cX4_note_ok (l := l) (B := B) (D := D) (cT := cT) (n := n) (adK := adK) (adV := adV) h0 hr_10
  refine tt_cV (pc := 20) (tt_vi E lmX4_81 mtX4_note hc_11 h0 rfl rfl (Nat.le_of_ble_eq_true rfl) ⟨(Nat.le_of_ble_eq_true rfl), (Nat.le_of_ble_eq_true rfl)⟩ ⟨(Nat.le_of_ble_eq_true rfl), (Nat.le_of_ble_eq_true rfl)⟩ dX4_findRepeat_20) ?_
  refine tt_iconst (pc := 23) (v := 1) E dX4_findRepeat_23 ic_1 ?_
  refine tt_istore_n (pc := 24) (i := 2) (lv' := [(2, .int 1), (0, .ref (B + o0)), (1, .ref (B + o1))]) E dX4_findRepeat_24 rfl (Nat.le_of_ble_eq_true rfl) rfl ?_
  refine tt_sub [1, 0] (lv' := [(0, .ref (B + o0)), (2, .int 1)]) rfl ?_
  exact tX4_findRepeat_25 E hr hlk h0 FU 1 r_9 hf
set_option maxHeartbeats 4000000 in
theorem tX4_speedToWin_2 {p : Program} {l : Launch} {e : Env} {s : State} {m : MethodId} {args : Array Value} {below : List Frame} {meth : Method} {c : Code} {B : Nat} {D : va_G} {cT : Nat → ClassId} {n : Nat} {adK adV : Nat → Nat} {res : Int32 × Mem} (E : EE p s m args c cX4_speedToWin 4 RX4 B D cT (XW B adK adV)) (hr : meth.sig.returnType = some .int) (hlk : meth.locks = false) {o0 : Nat} {o1 : Nat} {o2 : Nat} (h0 : isK n o0 3) (h1 : isK n o1 1) (h2 : isK n o2 2) : ∀ (fu : Nat) (v3 : Int32) (μ : Mem), zl2 (gX4_speedToWin_2 o0 o1 o2) fu v3 μ = some res → TT p l e rmX4_speedToWin s m args below meth c (QI B D cT n below args s res) 4 B D cT n 0 0 μ 2 [(0, .ref (B + o0)), (1, .ref (B + o1)), (2, .ref (B + o2)), (3, .int v3)] [] := by
  intro fu
  induction fu with
  | zero => intro v3 μ hf; exact absurd hf (fun h => by cases h)
  | succ fu ih =>
    intro v3 μ hf
    have hf : gX4_speedToWin_2 o0 o1 o2 (zl2 (gX4_speedToWin_2 o0 o1 o2) fu) v3 μ = some res := hf
    unfold gX4_speedToWin_2 at hf
    refine tt_iload_n (pc := 2) (i := 3) (j := 3) E dX4_speedToWin_2 rfl rfl ?_
    refine tt_bipush (pc := 3) (v := 99) E dX4_speedToWin_3 bc_99 ?_
    refine tt_icmp_gt (pc := 5) (tgt := 64) E dX4_speedToWin_5 rfl (fun c_29 => ?_) (fun c_29 => ?_)
    · have hf := ip c_29 hf
      refine tt_iconst (pc := 64) (v := (-1)) E dX4_speedToWin_64 ic_m1 ?_
      exact tt_iret (pc := 65) E hr hlk dX4_speedToWin_65 (Nat.le_of_ble_eq_true rfl) (Nat.le_of_ble_eq_true rfl) hf
    · have hf := ine c_29 hf
      refine tt_aload_n (pc := 8) (i := 0) (j := 0) E dX4_speedToWin_8 rfl rfl ?_
      obtain ⟨q_1, hq_2, hf⟩ := bd_some hf
      refine tt_getP (pc := 9) (t := 1) E lfX4_12 rfl rfl h0 dX4_speedToWin_9 hq_2 (fun kq_3 => ?_)
      refine tt_aload_n (pc := 12) (i := 1) (j := 1) E dX4_speedToWin_12 rfl rfl ?_
      obtain ⟨r_4, hr_5, hf⟩ := bd_some hf
      have hc_6 := cX2_copyFrom_ok (l := l) (B := B) (D := D) (cT := cT) (n := n) (adK := adK) (adV := adV) kq_3 h1 hr_5
      refine tt_cV (pc := 13) (tt_vi E lmX4_29 mtX2_copyFrom hc_6 kq_3 rfl rfl (Nat.le_of_ble_eq_true rfl) ⟨(Nat.le_of_ble_eq_true rfl), (Nat.le_of_ble_eq_true rfl)⟩ ⟨(Nat.le_of_ble_eq_true rfl), (Nat.le_of_ble_eq_true rfl)⟩ dX4_speedToWin_13) ?_
      refine tt_aload_n (pc := 16) (i := 0) (j := 0) E dX4_speedToWin_16 rfl rfl ?_
      obtain ⟨q_7, hq_8, hf⟩ := bd_some hf
      refine tt_getP (pc := 17) (t := 1) E lfX4_12 rfl rfl h0 dX4_speedToWin_17 hq_8 (fun kq_9 => ?_)
      refine tt_aload_n (pc := 20) (i := 2) (j := 2) E dX4_speedToWin_20 rfl rfl ?_
      refine tt_getI (pc := 21) E lfX4_92 rfl h2 dX4_speedToWin_21 ?_
      obtain ⟨r_10, hr_11, hf⟩ := bd_some hf
      have hc_12 := cX2_at_ok (l := l) (B := B) (D := D) (cT := cT) (n := n) (adK := adK) (adV := adV) kq_9 hr_11
      refine tt_cP (pc := 24) (tt_vi E lmX4_74 mtX2_at hc_12 kq_9 rfl rfl (Nat.le_of_ble_eq_true rfl) ⟨(Nat.le_of_ble_eq_true rfl), (Nat.le_of_ble_eq_true rfl)⟩ ⟨(Nat.le_of_ble_eq_true rfl), (Nat.le_of_ble_eq_true rfl)⟩ dX4_speedToWin_24) (fun kq_13 => ?_)
      refine tt_iload_n (pc := 27) (i := 3) (j := 3) E dX4_speedToWin_27 rfl rfl ?_
      refine tt_putI (pc := 28) E lfX4_103 rfl kq_13 dX4_speedToWin_28 (tt_nmM hf (fun m_14 hf => ?_))
      refine tt_aload_n (pc := 31) (i := 0) (j := 0) E dX4_speedToWin_31 rfl rfl ?_
      obtain ⟨q_15, hq_16, hf⟩ := bd_some hf
      refine tt_getP (pc := 32) (t := 1) E lfX4_12 rfl rfl h0 dX4_speedToWin_32 hq_16 (fun kq_17 => ?_)
      refine tt_sipush (pc := 35) (v := 200) E dX4_speedToWin_35 sc_200 ?_
      obtain ⟨r_18, hr_19, hf⟩ := bd_some hf
      have hc_20 := cX2_playOn_ok (l := l) (B := B) (D := D) (cT := cT) (n := n) (adK := adK) (adV := adV) kq_17 hr_19
      refine tt_cI (pc := 38) (tt_vi E lmX4_33 mtX2_playOn hc_20 kq_17 rfl rfl (Nat.le_of_ble_eq_true rfl) ⟨(Nat.le_of_ble_eq_true rfl), (Nat.le_of_ble_eq_true rfl)⟩ ⟨(Nat.le_of_ble_eq_true rfl), (Nat.le_of_ble_eq_true rfl)⟩ dX4_speedToWin_38) ?_
      refine tt_pop (pc := 41) E dX4_speedToWin_41 rfl ?_
      refine tt_aload_n (pc := 42) (i := 0) (j := 0) E dX4_speedToWin_42 rfl rfl ?_
      obtain ⟨q_21, hq_22, hf⟩ := bd_some hf
      refine tt_getP (pc := 43) (t := 1) E lfX4_12 rfl rfl h0 dX4_speedToWin_43 hq_22 (fun kq_23 => ?_)
      obtain ⟨r_24, hr_25, hf⟩ := bd_some hf
      have hc_26 := cX2_wonBy_ok (l := l) (B := B) (D := D) (cT := cT) (n := n) (adK := adK) (adV := adV) kq_23 hr_25
      refine tt_cI (pc := 46) (tt_vi E lmX4_106 mtX2_wonBy hc_26 kq_23 rfl rfl (Nat.le_of_ble_eq_true rfl) ⟨(Nat.le_of_ble_eq_true rfl), (Nat.le_of_ble_eq_true rfl)⟩ ⟨(Nat.le_of_ble_eq_true rfl), (Nat.le_of_ble_eq_true rfl)⟩ dX4_speedToWin_46) ?_
      refine tt_aload_n (pc := 49) (i := 2) (j := 2) E dX4_speedToWin_49 rfl rfl ?_
      refine tt_getI (pc := 50) E lfX4_110 rfl h2 dX4_speedToWin_50 ?_
      refine tt_icmp_ne (pc := 53) (tgt := 58) E dX4_speedToWin_53 rfl (fun c_28 => ?_) (fun c_28 => ?_)
      · have hf := ine c_28 hf
        obtain ⟨v_27, ev_27, hf⟩ := nm_ex hf
        refine tt_iinc (pc := 58) (i := 3) (j := 3) (lv' := [(3, .int v_27), (0, .ref (B + o0)), (1, .ref (B + o1)), (2, .ref (B + o2))]) E dX4_speedToWin_58 rfl (ev_27).symm (Nat.le_of_ble_eq_true rfl) rfl ?_
        refine tt_goto (pc := 61) (tgt := 2) E dX4_speedToWin_61 rfl ?_
        refine tt_sub [1, 2, 3, 0] (lv' := [(0, .ref (B + o0)), (1, .ref (B + o1)), (2, .ref (B + o2)), (3, .int v_27)]) rfl ?_
        exact ih v_27 r_18.2 hf
      · have hf := ip c_28 hf
        refine tt_iload_n (pc := 56) (i := 3) (j := 3) E dX4_speedToWin_56 rfl rfl ?_
        exact tt_iret (pc := 57) E hr hlk dX4_speedToWin_57 (Nat.le_of_ble_eq_true rfl) (Nat.le_of_ble_eq_true rfl) hf
set_option maxHeartbeats 4000000 in
theorem cX4_speedToWin_ok {l : Launch} {B : Nat} {D : va_G} {cT : Nat → ClassId} {n : Nat} {adK adV : Nat → Nat} {o0 : Nat} {o1 : Nat} {o2 : Nat} {μ : Mem} {res : Int32 × Mem} (h0 : isK n o0 3) (h1 : isK n o1 1) (h2 : isK n o2 2) (hf : fX4_speedToWin o0 o1 o2 μ = some res) : MI l yX4_speedToWin cX4_speedToWin 4 (some .int) rmX4_speedToWin B D cT (XW B adK adV) n [.ref (B + o0), .ref (B + o1), .ref (B + o2)] μ res := by
  refine tt_ofW mtX4_speedToWin.1 (Nat.le_of_ble_eq_true rfl) rfl ?_
  intro p e s m below meth c E0 hr hlk
  have E : EE p s m _ c cX4_speedToWin 4 RX4 B D cT (XW B adK adV) := E0
  unfold fX4_speedToWin at hf
  refine tt_iconst (pc := 0) (v := 1) E dX4_speedToWin_0 ic_1 ?_
  refine tt_istore_n (pc := 1) (i := 3) (lv' := [(3, .int 1), (0, .ref (B + o0)), (1, .ref (B + o1)), (2, .ref (B + o2))]) E dX4_speedToWin_1 rfl (Nat.le_of_ble_eq_true rfl) rfl ?_
  refine tt_sub [1, 2, 3, 0] (lv' := [(0, .ref (B + o0)), (1, .ref (B + o1)), (2, .ref (B + o2)), (3, .int 1)]) rfl ?_
  exact tX4_speedToWin_2 E hr hlk h0 h1 h2 FU 1 μ hf
set_option maxHeartbeats 4000000 in
theorem tX4_whomToPush_20 {p : Program} {l : Launch} {e : Env} {s : State} {m : MethodId} {args : Array Value} {below : List Frame} {meth : Method} {c : Code} {B : Nat} {D : va_G} {cT : Nat → ClassId} {n : Nat} {adK adV : Nat → Nat} {res : Int32 × Mem} (E : EE p s m args c cX4_whomToPush 11 RX4 B D cT (XW B adK adV)) (hr : meth.sig.returnType = some .int) (hlk : meth.locks = false) {o0 : Nat} {o1 : Nat} {v2 : Int32} {v3 : Int32} {o6 : Nat} {v7 : Int32} (h0 : isK n o0 3) (h1 : isK n o1 1) (h6 : isK n o6 15) : ∀ (fu : Nat) (v4 : Int32) (v5 : Int32) (v8 : Int32) (μ : Mem), zl4 (gX4_whomToPush_20 o0 o1 v2 v3 o6 v7) fu v4 v5 v8 μ = some res → TT p l e rmX4_whomToPush s m args below meth c (QI B D cT n below args s res) 11 B D cT n 0 0 μ 20 [(0, .ref (B + o0)), (1, .ref (B + o1)), (2, .int v2), (3, .int v3), (4, .int v4), (5, .int v5), (6, .ref (B + o6)), (7, .int v7), (8, .int v8)] [] := by
  intro fu
  induction fu with
  | zero => intro v4 v5 v8 μ hf; exact absurd hf (fun h => by cases h)
  | succ fu ih =>
    intro v4 v5 v8 μ hf
    have hf : gX4_whomToPush_20 o0 o1 v2 v3 o6 v7 (zl4 (gX4_whomToPush_20 o0 o1 v2 v3 o6 v7) fu) v4 v5 v8 μ = some res := hf
    unfold gX4_whomToPush_20 at hf
    refine tt_iload (pc := 20) (i := 8) (j := 8) E dX4_whomToPush_20 rfl ?_
    refine tt_iload (pc := 22) (i := 7) (j := 7) E dX4_whomToPush_22 rfl ?_
    refine tt_icmp_ge (pc := 24) (tgt := 119) E dX4_whomToPush_24 rfl (fun c_41 => ?_) (fun c_41 => ?_)
    · have hf := ip c_41 hf
      refine tt_iload (pc := 119) (i := 4) (j := 4) E dX4_whomToPush_119 rfl ?_
      exact tt_iret (pc := 121) E hr hlk dX4_whomToPush_121 (Nat.le_of_ble_eq_true rfl) (Nat.le_of_ble_eq_true rfl) hf
    · have hf := ine c_41 hf
      refine tt_aload (pc := 27) (i := 6) (j := 6) E dX4_whomToPush_27 rfl ?_
      refine tt_iload (pc := 29) (i := 8) (j := 8) E dX4_whomToPush_29 rfl ?_
      obtain ⟨g_1, hf⟩ := gd_some hf
      obtain ⟨q_2, hq_3, hf⟩ := bd_some hf
      refine tt_aald15 (pc := 31) E h6 g_1 dX4_whomToPush_31 hq_3 (fun kq_4 => ?_)
      refine tt_astore (pc := 32) (i := 9) (lv' := [(9, .ref (B + q_2)), (0, .ref (B + o0)), (1, .ref (B + o1)), (2, .int v2), (3, .int v3), (4, .int v4), (5, .int v5), (6, .ref (B + o6)), (7, .int v7), (8, .int v8)]) E dX4_whomToPush_32 (Nat.le_of_ble_eq_true rfl) rfl ?_
      refine tt_aload (pc := 34) (i := 9) (j := 0) E dX4_whomToPush_34 rfl ?_
      refine tt_getI (pc := 36) E lfX4_78 rfl kq_4 dX4_whomToPush_36 ?_
      refine tt_if_le (pc := 39) (tgt := 113) E dX4_whomToPush_39 rfl (fun c_40 => ?_) (fun c_40 => ?_)
      · have hf := ip c_40 hf
        obtain ⟨v_5, ev_5, hf⟩ := nm_ex hf
        refine tt_iinc (pc := 113) (i := 8) (j := 9) (lv' := [(8, .int v_5), (9, .ref (B + q_2)), (0, .ref (B + o0)), (1, .ref (B + o1)), (2, .int v2), (3, .int v3), (4, .int v4), (5, .int v5), (6, .ref (B + o6)), (7, .int v7)]) E dX4_whomToPush_113 rfl (ev_5).symm (Nat.le_of_ble_eq_true rfl) rfl ?_
        refine tt_goto (pc := 116) (tgt := 20) E dX4_whomToPush_116 rfl ?_
        refine tt_sub [2, 3, 4, 5, 6, 7, 8, 9, 0] (lv' := [(0, .ref (B + o0)), (1, .ref (B + o1)), (2, .int v2), (3, .int v3), (4, .int v4), (5, .int v5), (6, .ref (B + o6)), (7, .int v7), (8, .int v_5)]) rfl ?_
        exact ih v4 v5 v_5 μ hf
      · have hf := ine c_40 hf
        refine tt_aload (pc := 42) (i := 9) (j := 0) E dX4_whomToPush_42 rfl ?_
        refine tt_getI (pc := 44) E lfX4_110 rfl kq_4 dX4_whomToPush_44 ?_
        refine tt_iload_n (pc := 47) (i := 2) (j := 3) E dX4_whomToPush_47 rfl rfl ?_
        refine tt_icmp_eq (pc := 48) (tgt := 113) E dX4_whomToPush_48 rfl (fun c_39 => ?_) (fun c_39 => ?_)
        · have hf := ip c_39 hf
          obtain ⟨v_6, ev_6, hf⟩ := nm_ex hf
          refine tt_iinc (pc := 113) (i := 8) (j := 9) (lv' := [(8, .int v_6), (9, .ref (B + q_2)), (0, .ref (B + o0)), (1, .ref (B + o1)), (2, .int v2), (3, .int v3), (4, .int v4), (5, .int v5), (6, .ref (B + o6)), (7, .int v7)]) E dX4_whomToPush_113 rfl (ev_6).symm (Nat.le_of_ble_eq_true rfl) rfl ?_
          refine tt_goto (pc := 116) (tgt := 20) E dX4_whomToPush_116 rfl ?_
          refine tt_sub [2, 3, 4, 5, 6, 7, 8, 9, 0] (lv' := [(0, .ref (B + o0)), (1, .ref (B + o1)), (2, .int v2), (3, .int v3), (4, .int v4), (5, .int v5), (6, .ref (B + o6)), (7, .int v7), (8, .int v_6)]) rfl ?_
          exact ih v4 v5 v_6 μ hf
        · have hf := ine c_39 hf
          refine tt_aload_n (pc := 51) (i := 0) (j := 1) E dX4_whomToPush_51 rfl rfl ?_
          obtain ⟨q_7, hq_8, hf⟩ := bd_some hf
          refine tt_getP (pc := 52) (t := 1) E lfX4_12 rfl rfl h0 dX4_whomToPush_52 hq_8 (fun kq_9 => ?_)
          refine tt_aload_n (pc := 55) (i := 1) (j := 2) E dX4_whomToPush_55 rfl rfl ?_
          obtain ⟨r_10, hr_11, hf⟩ := bd_some hf
          have hc_12 := cX2_copyFrom_ok (l := l) (B := B) (D := D) (cT := cT) (n := n) (adK := adK) (adV := adV) kq_9 h1 hr_11
          refine tt_cV (pc := 56) (tt_vi E lmX4_29 mtX2_copyFrom hc_12 kq_9 rfl rfl (Nat.le_of_ble_eq_true rfl) ⟨(Nat.le_of_ble_eq_true rfl), (Nat.le_of_ble_eq_true rfl)⟩ ⟨(Nat.le_of_ble_eq_true rfl), (Nat.le_of_ble_eq_true rfl)⟩ dX4_whomToPush_56) ?_
          refine tt_aload_n (pc := 59) (i := 0) (j := 1) E dX4_whomToPush_59 rfl rfl ?_
          obtain ⟨q_13, hq_14, hf⟩ := bd_some hf
          refine tt_getP (pc := 60) (t := 1) E lfX4_12 rfl rfl h0 dX4_whomToPush_60 hq_14 (fun kq_15 => ?_)
          refine tt_aload (pc := 63) (i := 9) (j := 0) E dX4_whomToPush_63 rfl ?_
          refine tt_getI (pc := 65) E lfX4_92 rfl kq_4 dX4_whomToPush_65 ?_
          obtain ⟨r_16, hr_17, hf⟩ := bd_some hf
          have hc_18 := cX2_at_ok (l := l) (B := B) (D := D) (cT := cT) (n := n) (adK := adK) (adV := adV) kq_15 hr_17
          refine tt_cP (pc := 68) (tt_vi E lmX4_74 mtX2_at hc_18 kq_15 rfl rfl (Nat.le_of_ble_eq_true rfl) ⟨(Nat.le_of_ble_eq_true rfl), (Nat.le_of_ble_eq_true rfl)⟩ ⟨(Nat.le_of_ble_eq_true rfl), (Nat.le_of_ble_eq_true rfl)⟩ dX4_whomToPush_68) (fun kq_19 => ?_)
          refine tt_iload_n (pc := 71) (i := 3) (j := 4) E dX4_whomToPush_71 rfl rfl ?_
          obtain ⟨r_20, hr_21, hf⟩ := bd_some hf
          have hc_22 := cX3_loseGauge_ok (l := l) (B := B) (D := D) (cT := cT) (n := n) (adK := adK) (adV := adV) kq_19 hr_21
          refine tt_cV (pc := 72) (tt_vi E lmX4_113 mtX3_loseGauge hc_22 kq_19 rfl rfl (Nat.le_of_ble_eq_true rfl) ⟨(Nat.le_of_ble_eq_true rfl), (Nat.le_of_ble_eq_true rfl)⟩ ⟨(Nat.le_of_ble_eq_true rfl), (Nat.le_of_ble_eq_true rfl)⟩ dX4_whomToPush_72) ?_
          refine tt_aload_n (pc := 75) (i := 0) (j := 1) E dX4_whomToPush_75 rfl rfl ?_
          obtain ⟨q_23, hq_24, hf⟩ := bd_some hf
          refine tt_getP (pc := 76) (t := 1) E lfX4_12 rfl rfl h0 dX4_whomToPush_76 hq_24 (fun kq_25 => ?_)
          refine tt_bipush (pc := 79) (v := 20) E dX4_whomToPush_79 bc_20 ?_
          obtain ⟨r_26, hr_27, hf⟩ := bd_some hf
          have hc_28 := cX2_playOn_ok (l := l) (B := B) (D := D) (cT := cT) (n := n) (adK := adK) (adV := adV) kq_25 hr_27
          refine tt_cI (pc := 81) (tt_vi E lmX4_33 mtX2_playOn hc_28 kq_25 rfl rfl (Nat.le_of_ble_eq_true rfl) ⟨(Nat.le_of_ble_eq_true rfl), (Nat.le_of_ble_eq_true rfl)⟩ ⟨(Nat.le_of_ble_eq_true rfl), (Nat.le_of_ble_eq_true rfl)⟩ dX4_whomToPush_81) ?_
          refine tt_pop (pc := 84) E dX4_whomToPush_84 rfl ?_
          refine tt_aload_n (pc := 85) (i := 0) (j := 1) E dX4_whomToPush_85 rfl rfl ?_
          obtain ⟨q_29, hq_30, hf⟩ := bd_some hf
          refine tt_getP (pc := 86) (t := 1) E lfX4_12 rfl rfl h0 dX4_whomToPush_86 hq_30 (fun kq_31 => ?_)
          refine tt_iload_n (pc := 89) (i := 2) (j := 3) E dX4_whomToPush_89 rfl rfl ?_
          obtain ⟨r_32, hr_33, hf⟩ := bd_some hf
          have hc_34 := cX2_sideLife_ok (l := l) (B := B) (D := D) (cT := cT) (n := n) (adK := adK) (adV := adV) kq_31 hr_33
          refine tt_cI (pc := 90) (tt_vi E lmX4_116 mtX2_sideLife hc_34 kq_31 rfl rfl (Nat.le_of_ble_eq_true rfl) ⟨(Nat.le_of_ble_eq_true rfl), (Nat.le_of_ble_eq_true rfl)⟩ ⟨(Nat.le_of_ble_eq_true rfl), (Nat.le_of_ble_eq_true rfl)⟩ dX4_whomToPush_90) ?_
          refine tt_istore (pc := 93) (i := 10) (lv' := [(10, .int r_32), (9, .ref (B + q_2)), (0, .ref (B + o0)), (1, .ref (B + o1)), (2, .int v2), (3, .int v3), (4, .int v4), (5, .int v5), (6, .ref (B + o6)), (7, .int v7), (8, .int v8)]) E dX4_whomToPush_93 (Nat.le_of_ble_eq_true rfl) rfl ?_
          refine tt_iload (pc := 95) (i := 10) (j := 0) E dX4_whomToPush_95 rfl ?_
          refine tt_iload (pc := 97) (i := 5) (j := 7) E dX4_whomToPush_97 rfl ?_
          refine tt_icmp_le (pc := 99) (tgt := 113) E dX4_whomToPush_99 rfl (fun c_38 => ?_) (fun c_38 => ?_)
          · have hf := ip c_38 hf
            obtain ⟨v_35, ev_35, hf⟩ := nm_ex hf
            refine tt_iinc (pc := 113) (i := 8) (j := 10) (lv' := [(8, .int v_35), (10, .int r_32), (9, .ref (B + q_2)), (0, .ref (B + o0)), (1, .ref (B + o1)), (2, .int v2), (3, .int v3), (4, .int v4), (5, .int v5), (6, .ref (B + o6)), (7, .int v7)]) E dX4_whomToPush_113 rfl (ev_35).symm (Nat.le_of_ble_eq_true rfl) rfl ?_
            refine tt_goto (pc := 116) (tgt := 20) E dX4_whomToPush_116 rfl ?_
            refine tt_sub [3, 4, 5, 6, 7, 8, 9, 10, 0] (lv' := [(0, .ref (B + o0)), (1, .ref (B + o1)), (2, .int v2), (3, .int v3), (4, .int v4), (5, .int v5), (6, .ref (B + o6)), (7, .int v7), (8, .int v_35)]) rfl ?_
            exact ih v4 v5 v_35 r_26.2 hf
          · have hf := ine c_38 hf
            refine tt_iload (pc := 102) (i := 10) (j := 0) E dX4_whomToPush_102 rfl ?_
            refine tt_istore (pc := 104) (i := 5) (lv' := [(5, .int r_32), (10, .int r_32), (9, .ref (B + q_2)), (0, .ref (B + o0)), (1, .ref (B + o1)), (2, .int v2), (3, .int v3), (4, .int v4), (6, .ref (B + o6)), (7, .int v7), (8, .int v8)]) E dX4_whomToPush_104 (Nat.le_of_ble_eq_true rfl) rfl ?_
            refine tt_aload (pc := 106) (i := 9) (j := 2) E dX4_whomToPush_106 rfl ?_
            refine tt_getI (pc := 108) E lfX4_92 rfl kq_4 dX4_whomToPush_108 ?_
            refine tt_nmI hf (fun v_36 hf => ?_)
            refine tt_istore (pc := 111) (i := 4) (lv' := [(4, .int v_36), (5, .int r_32), (10, .int r_32), (9, .ref (B + q_2)), (0, .ref (B + o0)), (1, .ref (B + o1)), (2, .int v2), (3, .int v3), (6, .ref (B + o6)), (7, .int v7), (8, .int v8)]) E dX4_whomToPush_111 (Nat.le_of_ble_eq_true rfl) rfl ?_
            obtain ⟨v_37, ev_37, hf⟩ := nm_ex hf
            refine tt_iinc (pc := 113) (i := 8) (j := 10) (lv' := [(8, .int v_37), (4, .int v_36), (5, .int r_32), (10, .int r_32), (9, .ref (B + q_2)), (0, .ref (B + o0)), (1, .ref (B + o1)), (2, .int v2), (3, .int v3), (6, .ref (B + o6)), (7, .int v7)]) E dX4_whomToPush_113 rfl (ev_37).symm (Nat.le_of_ble_eq_true rfl) rfl ?_
            refine tt_goto (pc := 116) (tgt := 20) E dX4_whomToPush_116 rfl ?_
            refine tt_sub [5, 6, 7, 8, 1, 2, 9, 10, 0] (lv' := [(0, .ref (B + o0)), (1, .ref (B + o1)), (2, .int v2), (3, .int v3), (4, .int v_36), (5, .int r_32), (6, .ref (B + o6)), (7, .int v7), (8, .int v_37)]) rfl ?_
            exact ih v_36 r_32 v_37 r_26.2 hf
set_option maxHeartbeats 4000000 in
theorem cX4_whomToPush_ok {l : Launch} {B : Nat} {D : va_G} {cT : Nat → ClassId} {n : Nat} {adK adV : Nat → Nat} {o0 : Nat} {o1 : Nat} {v2 : Int32} {v3 : Int32} {μ : Mem} {res : Int32 × Mem} (h0 : isK n o0 3) (h1 : isK n o1 1) (hf : fX4_whomToPush o0 o1 v2 v3 μ = some res) : MI l yX4_whomToPush cX4_whomToPush 11 (some .int) rmX4_whomToPush B D cT (XW B adK adV) n [.ref (B + o0), .ref (B + o1), .int v2, .int v3] μ res := by
  refine tt_ofW mtX4_whomToPush.1 (Nat.le_of_ble_eq_true rfl) rfl ?_
  intro p e s m below meth c E0 hr hlk
  have E : EE p s m _ c cX4_whomToPush 11 RX4 B D cT (XW B adK adV) := E0
  unfold fX4_whomToPush at hf
  refine tt_iconst (pc := 0) (v := (-1)) E dX4_whomToPush_0 ic_m1 ?_
  refine tt_istore (pc := 1) (i := 4) (lv' := [(4, .int ((-1))), (0, .ref (B + o0)), (1, .ref (B + o1)), (2, .int v2), (3, .int v3)]) E dX4_whomToPush_1 (Nat.le_of_ble_eq_true rfl) rfl ?_
  refine tt_iconst (pc := 3) (v := (-1)) E dX4_whomToPush_3 ic_m1 ?_
  refine tt_istore (pc := 4) (i := 5) (lv' := [(5, .int ((-1))), (4, .int ((-1))), (0, .ref (B + o0)), (1, .ref (B + o1)), (2, .int v2), (3, .int v3)]) E dX4_whomToPush_4 (Nat.le_of_ble_eq_true rfl) rfl ?_
  refine tt_aload_n (pc := 6) (i := 1) (j := 3) E dX4_whomToPush_6 rfl rfl ?_
  obtain ⟨q_1, hq_2, hf⟩ := bd_some hf
  refine tt_getP (pc := 7) (t := 15) E lfX4_88 rfl rfl h1 dX4_whomToPush_7 hq_2 (fun kq_3 => ?_)
  refine tt_astore (pc := 10) (i := 6) (lv' := [(6, .ref (B + q_1)), (5, .int ((-1))), (4, .int ((-1))), (0, .ref (B + o0)), (1, .ref (B + o1)), (2, .int v2), (3, .int v3)]) E dX4_whomToPush_10 (Nat.le_of_ble_eq_true rfl) rfl ?_
  refine tt_aload (pc := 12) (i := 6) (j := 0) E dX4_whomToPush_12 rfl ?_
  refine tt_alen (pc := 14) (v := Int32.ofNat (Ln q_1)) E (k := 15) ⟨(Nat.le_of_ble_eq_true rfl), (Nat.le_of_ble_eq_true rfl)⟩ kq_3 rfl dX4_whomToPush_14 ?_
  refine tt_nmI hf (fun v_4 hf => ?_)
  refine tt_istore (pc := 15) (i := 7) (lv' := [(7, .int v_4), (6, .ref (B + q_1)), (5, .int ((-1))), (4, .int ((-1))), (0, .ref (B + o0)), (1, .ref (B + o1)), (2, .int v2), (3, .int v3)]) E dX4_whomToPush_15 (Nat.le_of_ble_eq_true rfl) rfl ?_
  refine tt_iconst (pc := 17) (v := 0) E dX4_whomToPush_17 ic_0 ?_
  refine tt_istore (pc := 18) (i := 8) (lv' := [(8, .int 0), (7, .int v_4), (6, .ref (B + q_1)), (5, .int ((-1))), (4, .int ((-1))), (0, .ref (B + o0)), (1, .ref (B + o1)), (2, .int v2), (3, .int v3)]) E dX4_whomToPush_18 (Nat.le_of_ble_eq_true rfl) rfl ?_
  refine tt_sub [5, 6, 7, 8, 4, 3, 2, 1, 0] (lv' := [(0, .ref (B + o0)), (1, .ref (B + o1)), (2, .int v2), (3, .int v3), (4, .int ((-1))), (5, .int ((-1))), (6, .ref (B + q_1)), (7, .int v_4), (8, .int 0)]) rfl ?_
  exact tX4_whomToPush_20 E hr hlk h0 h1 kq_3 FU ((-1)) ((-1)) 0 μ hf
set_option maxHeartbeats 4000000 in
theorem tX4_withWhomToSwap_56 {p : Program} {l : Launch} {e : Env} {s : State} {m : MethodId} {args : Array Value} {below : List Frame} {meth : Method} {c : Code} {B : Nat} {D : va_G} {cT : Nat → ClassId} {n : Nat} {adK adV : Nat → Nat} {res : Int32 × Mem} (E : EE p s m args c cX4_withWhomToSwap 10 RX4 B D cT (XW B adK adV)) (hr : meth.sig.returnType = some .int) (hlk : meth.locks = false) {o0 : Nat} {o1 : Nat} {o2 : Nat} {o5 : Nat} {v6 : Int32} (h0 : isK n o0 3) (h1 : isK n o1 1) (h2 : isK n o2 2) (h5 : isK n o5 15) : ∀ (fu : Nat) (v3 : Int32) (v4 : Int32) (v7 : Int32) (μ : Mem), zl4 (gX4_withWhomToSwap_56 o0 o1 o2 o5 v6) fu v3 v4 v7 μ = some res → TT p l e rmX4_withWhomToSwap s m args below meth c (QI B D cT n below args s res) 10 B D cT n 0 0 μ 56 [(0, .ref (B + o0)), (1, .ref (B + o1)), (2, .ref (B + o2)), (3, .int v3), (4, .int v4), (5, .ref (B + o5)), (6, .int v6), (7, .int v7)] [] := by
  intro fu
  induction fu with
  | zero => intro v3 v4 v7 μ hf; exact absurd hf (fun h => by cases h)
  | succ fu ih =>
    intro v3 v4 v7 μ hf
    have hf : gX4_withWhomToSwap_56 o0 o1 o2 o5 v6 (zl4 (gX4_withWhomToSwap_56 o0 o1 o2 o5 v6) fu) v3 v4 v7 μ = some res := hf
    unfold gX4_withWhomToSwap_56 at hf
    refine tt_iload (pc := 56) (i := 7) (j := 7) E dX4_withWhomToSwap_56 rfl ?_
    refine tt_iload (pc := 58) (i := 6) (j := 6) E dX4_withWhomToSwap_58 rfl ?_
    refine tt_icmp_ge (pc := 60) (tgt := 187) E dX4_withWhomToSwap_60 rfl (fun c_49 => ?_) (fun c_49 => ?_)
    · have hf := ip c_49 hf
      refine tt_iload (pc := 187) (i := 4) (j := 4) E dX4_withWhomToSwap_187 rfl ?_
      exact tt_iret (pc := 189) E hr hlk dX4_withWhomToSwap_189 (Nat.le_of_ble_eq_true rfl) (Nat.le_of_ble_eq_true rfl) hf
    · have hf := ine c_49 hf
      refine tt_aload (pc := 63) (i := 5) (j := 5) E dX4_withWhomToSwap_63 rfl ?_
      refine tt_iload (pc := 65) (i := 7) (j := 7) E dX4_withWhomToSwap_65 rfl ?_
      obtain ⟨g_1, hf⟩ := gd_some hf
      obtain ⟨q_2, hq_3, hf⟩ := bd_some hf
      refine tt_aald15 (pc := 67) E h5 g_1 dX4_withWhomToSwap_67 hq_3 (fun kq_4 => ?_)
      refine tt_astore (pc := 68) (i := 8) (lv' := [(8, .ref (B + q_2)), (0, .ref (B + o0)), (1, .ref (B + o1)), (2, .ref (B + o2)), (3, .int v3), (4, .int v4), (5, .ref (B + o5)), (6, .int v6), (7, .int v7)]) E dX4_withWhomToSwap_68 (Nat.le_of_ble_eq_true rfl) rfl ?_
      refine tt_aload (pc := 70) (i := 8) (j := 0) E dX4_withWhomToSwap_70 rfl ?_
      refine tt_aload_n (pc := 72) (i := 2) (j := 3) E dX4_withWhomToSwap_72 rfl rfl ?_
      refine tt_acmp_eq (pc := 73) (tgt := 181) E dX4_withWhomToSwap_73 rfl (fun c_48 => ?_) (fun c_48 => ?_)
      · have hf := ip c_48 hf
        obtain ⟨v_5, ev_5, hf⟩ := nm_ex hf
        refine tt_iinc (pc := 181) (i := 7) (j := 8) (lv' := [(7, .int v_5), (8, .ref (B + q_2)), (0, .ref (B + o0)), (1, .ref (B + o1)), (2, .ref (B + o2)), (3, .int v3), (4, .int v4), (5, .ref (B + o5)), (6, .int v6)]) E dX4_withWhomToSwap_181 rfl (ev_5).symm (Nat.le_of_ble_eq_true rfl) rfl ?_
        refine tt_goto (pc := 184) (tgt := 56) E dX4_withWhomToSwap_184 rfl ?_
        refine tt_sub [2, 3, 4, 5, 6, 7, 8, 0] (lv' := [(0, .ref (B + o0)), (1, .ref (B + o1)), (2, .ref (B + o2)), (3, .int v3), (4, .int v4), (5, .ref (B + o5)), (6, .int v6), (7, .int v_5)]) rfl ?_
        exact ih v3 v4 v_5 μ hf
      · have hf := ine c_48 hf
        refine tt_aload (pc := 76) (i := 8) (j := 0) E dX4_withWhomToSwap_76 rfl ?_
        refine tt_getI (pc := 78) E lfX4_78 rfl kq_4 dX4_withWhomToSwap_78 ?_
        refine tt_if_le (pc := 81) (tgt := 181) E dX4_withWhomToSwap_81 rfl (fun c_47 => ?_) (fun c_47 => ?_)
        · have hf := ip c_47 hf
          obtain ⟨v_6, ev_6, hf⟩ := nm_ex hf
          refine tt_iinc (pc := 181) (i := 7) (j := 8) (lv' := [(7, .int v_6), (8, .ref (B + q_2)), (0, .ref (B + o0)), (1, .ref (B + o1)), (2, .ref (B + o2)), (3, .int v3), (4, .int v4), (5, .ref (B + o5)), (6, .int v6)]) E dX4_withWhomToSwap_181 rfl (ev_6).symm (Nat.le_of_ble_eq_true rfl) rfl ?_
          refine tt_goto (pc := 184) (tgt := 56) E dX4_withWhomToSwap_184 rfl ?_
          refine tt_sub [2, 3, 4, 5, 6, 7, 8, 0] (lv' := [(0, .ref (B + o0)), (1, .ref (B + o1)), (2, .ref (B + o2)), (3, .int v3), (4, .int v4), (5, .ref (B + o5)), (6, .int v6), (7, .int v_6)]) rfl ?_
          exact ih v3 v4 v_6 μ hf
        · have hf := ine c_47 hf
          refine tt_aload (pc := 84) (i := 8) (j := 0) E dX4_withWhomToSwap_84 rfl ?_
          refine tt_getI (pc := 86) E lfX4_110 rfl kq_4 dX4_withWhomToSwap_86 ?_
          refine tt_aload_n (pc := 89) (i := 2) (j := 3) E dX4_withWhomToSwap_89 rfl rfl ?_
          refine tt_getI (pc := 90) E lfX4_110 rfl h2 dX4_withWhomToSwap_90 ?_
          refine tt_icmp_ne (pc := 93) (tgt := 181) E dX4_withWhomToSwap_93 rfl (fun c_46 => ?_) (fun c_46 => ?_)
          · have hf := ine c_46 hf
            obtain ⟨v_7, ev_7, hf⟩ := nm_ex hf
            refine tt_iinc (pc := 181) (i := 7) (j := 8) (lv' := [(7, .int v_7), (8, .ref (B + q_2)), (0, .ref (B + o0)), (1, .ref (B + o1)), (2, .ref (B + o2)), (3, .int v3), (4, .int v4), (5, .ref (B + o5)), (6, .int v6)]) E dX4_withWhomToSwap_181 rfl (ev_7).symm (Nat.le_of_ble_eq_true rfl) rfl ?_
            refine tt_goto (pc := 184) (tgt := 56) E dX4_withWhomToSwap_184 rfl ?_
            refine tt_sub [2, 3, 4, 5, 6, 7, 8, 0] (lv' := [(0, .ref (B + o0)), (1, .ref (B + o1)), (2, .ref (B + o2)), (3, .int v3), (4, .int v4), (5, .ref (B + o5)), (6, .int v6), (7, .int v_7)]) rfl ?_
            exact ih v3 v4 v_7 μ hf
          · have hf := ip c_46 hf
            refine tt_aload_n (pc := 96) (i := 0) (j := 1) E dX4_withWhomToSwap_96 rfl rfl ?_
            obtain ⟨q_8, hq_9, hf⟩ := bd_some hf
            refine tt_getP (pc := 97) (t := 1) E lfX4_12 rfl rfl h0 dX4_withWhomToSwap_97 hq_9 (fun kq_10 => ?_)
            refine tt_aload_n (pc := 100) (i := 1) (j := 2) E dX4_withWhomToSwap_100 rfl rfl ?_
            obtain ⟨r_11, hr_12, hf⟩ := bd_some hf
            have hc_13 := cX2_copyFrom_ok (l := l) (B := B) (D := D) (cT := cT) (n := n) (adK := adK) (adV := adV) kq_10 h1 hr_12
            refine tt_cV (pc := 101) (tt_vi E lmX4_29 mtX2_copyFrom hc_13 kq_10 rfl rfl (Nat.le_of_ble_eq_true rfl) ⟨(Nat.le_of_ble_eq_true rfl), (Nat.le_of_ble_eq_true rfl)⟩ ⟨(Nat.le_of_ble_eq_true rfl), (Nat.le_of_ble_eq_true rfl)⟩ dX4_withWhomToSwap_101) ?_
            refine tt_aload_n (pc := 104) (i := 0) (j := 1) E dX4_withWhomToSwap_104 rfl rfl ?_
            obtain ⟨q_14, hq_15, hf⟩ := bd_some hf
            refine tt_getP (pc := 105) (t := 1) E lfX4_12 rfl rfl h0 dX4_withWhomToSwap_105 hq_15 (fun kq_16 => ?_)
            refine tt_aload_n (pc := 108) (i := 2) (j := 3) E dX4_withWhomToSwap_108 rfl rfl ?_
            refine tt_getI (pc := 109) E lfX4_92 rfl h2 dX4_withWhomToSwap_109 ?_
            obtain ⟨r_17, hr_18, hf⟩ := bd_some hf
            have hc_19 := cX2_at_ok (l := l) (B := B) (D := D) (cT := cT) (n := n) (adK := adK) (adV := adV) kq_16 hr_18
            refine tt_cP (pc := 112) (tt_vi E lmX4_74 mtX2_at hc_19 kq_16 rfl rfl (Nat.le_of_ble_eq_true rfl) ⟨(Nat.le_of_ble_eq_true rfl), (Nat.le_of_ble_eq_true rfl)⟩ ⟨(Nat.le_of_ble_eq_true rfl), (Nat.le_of_ble_eq_true rfl)⟩ dX4_withWhomToSwap_112) (fun kq_20 => ?_)
            refine tt_aload (pc := 115) (i := 8) (j := 0) E dX4_withWhomToSwap_115 rfl ?_
            refine tt_getI (pc := 117) E lfX4_119 rfl kq_4 dX4_withWhomToSwap_117 ?_
            refine tt_putI (pc := 120) E lfX4_119 rfl kq_20 dX4_withWhomToSwap_120 (tt_nmM hf (fun m_21 hf => ?_))
            refine tt_aload_n (pc := 123) (i := 0) (j := 1) E dX4_withWhomToSwap_123 rfl rfl ?_
            obtain ⟨q_22, hq_23, hf⟩ := bd_some hf
            refine tt_getP (pc := 124) (t := 1) E lfX4_12 rfl rfl h0 dX4_withWhomToSwap_124 hq_23 (fun kq_24 => ?_)
            refine tt_aload (pc := 127) (i := 8) (j := 0) E dX4_withWhomToSwap_127 rfl ?_
            refine tt_getI (pc := 129) E lfX4_92 rfl kq_4 dX4_withWhomToSwap_129 ?_
            obtain ⟨r_25, hr_26, hf⟩ := bd_some hf
            have hc_27 := cX2_at_ok (l := l) (B := B) (D := D) (cT := cT) (n := n) (adK := adK) (adV := adV) kq_24 hr_26
            refine tt_cP (pc := 132) (tt_vi E lmX4_74 mtX2_at hc_27 kq_24 rfl rfl (Nat.le_of_ble_eq_true rfl) ⟨(Nat.le_of_ble_eq_true rfl), (Nat.le_of_ble_eq_true rfl)⟩ ⟨(Nat.le_of_ble_eq_true rfl), (Nat.le_of_ble_eq_true rfl)⟩ dX4_withWhomToSwap_132) (fun kq_28 => ?_)
            refine tt_aload_n (pc := 135) (i := 2) (j := 3) E dX4_withWhomToSwap_135 rfl rfl ?_
            refine tt_getI (pc := 136) E lfX4_119 rfl h2 dX4_withWhomToSwap_136 ?_
            refine tt_putI (pc := 139) E lfX4_119 rfl kq_28 dX4_withWhomToSwap_139 (tt_nmM hf (fun m_29 hf => ?_))
            refine tt_aload_n (pc := 142) (i := 0) (j := 1) E dX4_withWhomToSwap_142 rfl rfl ?_
            obtain ⟨q_30, hq_31, hf⟩ := bd_some hf
            refine tt_getP (pc := 143) (t := 1) E lfX4_12 rfl rfl h0 dX4_withWhomToSwap_143 hq_31 (fun kq_32 => ?_)
            refine tt_bipush (pc := 146) (v := 20) E dX4_withWhomToSwap_146 bc_20 ?_
            obtain ⟨r_33, hr_34, hf⟩ := bd_some hf
            have hc_35 := cX2_playOn_ok (l := l) (B := B) (D := D) (cT := cT) (n := n) (adK := adK) (adV := adV) kq_32 hr_34
            refine tt_cI (pc := 148) (tt_vi E lmX4_33 mtX2_playOn hc_35 kq_32 rfl rfl (Nat.le_of_ble_eq_true rfl) ⟨(Nat.le_of_ble_eq_true rfl), (Nat.le_of_ble_eq_true rfl)⟩ ⟨(Nat.le_of_ble_eq_true rfl), (Nat.le_of_ble_eq_true rfl)⟩ dX4_withWhomToSwap_148) ?_
            refine tt_pop (pc := 151) E dX4_withWhomToSwap_151 rfl ?_
            refine tt_aload_n (pc := 152) (i := 0) (j := 1) E dX4_withWhomToSwap_152 rfl rfl ?_
            obtain ⟨q_36, hq_37, hf⟩ := bd_some hf
            refine tt_getP (pc := 153) (t := 1) E lfX4_12 rfl rfl h0 dX4_withWhomToSwap_153 hq_37 (fun kq_38 => ?_)
            refine tt_aload_n (pc := 156) (i := 2) (j := 3) E dX4_withWhomToSwap_156 rfl rfl ?_
            refine tt_getI (pc := 157) E lfX4_110 rfl h2 dX4_withWhomToSwap_157 ?_
            obtain ⟨r_39, hr_40, hf⟩ := bd_some hf
            have hc_41 := cX2_sideLife_ok (l := l) (B := B) (D := D) (cT := cT) (n := n) (adK := adK) (adV := adV) kq_38 hr_40
            refine tt_cI (pc := 160) (tt_vi E lmX4_116 mtX2_sideLife hc_41 kq_38 rfl rfl (Nat.le_of_ble_eq_true rfl) ⟨(Nat.le_of_ble_eq_true rfl), (Nat.le_of_ble_eq_true rfl)⟩ ⟨(Nat.le_of_ble_eq_true rfl), (Nat.le_of_ble_eq_true rfl)⟩ dX4_withWhomToSwap_160) ?_
            refine tt_istore (pc := 163) (i := 9) (lv' := [(9, .int r_39), (8, .ref (B + q_2)), (0, .ref (B + o0)), (1, .ref (B + o1)), (2, .ref (B + o2)), (3, .int v3), (4, .int v4), (5, .ref (B + o5)), (6, .int v6), (7, .int v7)]) E dX4_withWhomToSwap_163 (Nat.le_of_ble_eq_true rfl) rfl ?_
            refine tt_iload (pc := 165) (i := 9) (j := 0) E dX4_withWhomToSwap_165 rfl ?_
            refine tt_iload_n (pc := 167) (i := 3) (j := 5) E dX4_withWhomToSwap_167 rfl rfl ?_
            refine tt_icmp_le (pc := 168) (tgt := 181) E dX4_withWhomToSwap_168 rfl (fun c_45 => ?_) (fun c_45 => ?_)
            · have hf := ip c_45 hf
              obtain ⟨v_42, ev_42, hf⟩ := nm_ex hf
              refine tt_iinc (pc := 181) (i := 7) (j := 9) (lv' := [(7, .int v_42), (9, .int r_39), (8, .ref (B + q_2)), (0, .ref (B + o0)), (1, .ref (B + o1)), (2, .ref (B + o2)), (3, .int v3), (4, .int v4), (5, .ref (B + o5)), (6, .int v6)]) E dX4_withWhomToSwap_181 rfl (ev_42).symm (Nat.le_of_ble_eq_true rfl) rfl ?_
              refine tt_goto (pc := 184) (tgt := 56) E dX4_withWhomToSwap_184 rfl ?_
              refine tt_sub [3, 4, 5, 6, 7, 8, 9, 0] (lv' := [(0, .ref (B + o0)), (1, .ref (B + o1)), (2, .ref (B + o2)), (3, .int v3), (4, .int v4), (5, .ref (B + o5)), (6, .int v6), (7, .int v_42)]) rfl ?_
              exact ih v3 v4 v_42 r_33.2 hf
            · have hf := ine c_45 hf
              refine tt_iload (pc := 171) (i := 9) (j := 0) E dX4_withWhomToSwap_171 rfl ?_
              refine tt_istore_n (pc := 173) (i := 3) (lv' := [(3, .int r_39), (9, .int r_39), (8, .ref (B + q_2)), (0, .ref (B + o0)), (1, .ref (B + o1)), (2, .ref (B + o2)), (4, .int v4), (5, .ref (B + o5)), (6, .int v6), (7, .int v7)]) E dX4_withWhomToSwap_173 rfl (Nat.le_of_ble_eq_true rfl) rfl ?_
              refine tt_aload (pc := 174) (i := 8) (j := 2) E dX4_withWhomToSwap_174 rfl ?_
              refine tt_getI (pc := 176) E lfX4_92 rfl kq_4 dX4_withWhomToSwap_176 ?_
              refine tt_nmI hf (fun v_43 hf => ?_)
              refine tt_istore (pc := 179) (i := 4) (lv' := [(4, .int v_43), (3, .int r_39), (9, .int r_39), (8, .ref (B + q_2)), (0, .ref (B + o0)), (1, .ref (B + o1)), (2, .ref (B + o2)), (5, .ref (B + o5)), (6, .int v6), (7, .int v7)]) E dX4_withWhomToSwap_179 (Nat.le_of_ble_eq_true rfl) rfl ?_
              obtain ⟨v_44, ev_44, hf⟩ := nm_ex hf
              refine tt_iinc (pc := 181) (i := 7) (j := 9) (lv' := [(7, .int v_44), (4, .int v_43), (3, .int r_39), (9, .int r_39), (8, .ref (B + q_2)), (0, .ref (B + o0)), (1, .ref (B + o1)), (2, .ref (B + o2)), (5, .ref (B + o5)), (6, .int v6)]) E dX4_withWhomToSwap_181 rfl (ev_44).symm (Nat.le_of_ble_eq_true rfl) rfl ?_
              refine tt_goto (pc := 184) (tgt := 56) E dX4_withWhomToSwap_184 rfl ?_
              refine tt_sub [5, 6, 7, 2, 1, 8, 9, 0] (lv' := [(0, .ref (B + o0)), (1, .ref (B + o1)), (2, .ref (B + o2)), (3, .int r_39), (4, .int v_43), (5, .ref (B + o5)), (6, .int v6), (7, .int v_44)]) rfl ?_
              exact ih r_39 v_43 v_44 r_33.2 hf
set_option maxHeartbeats 4000000 in
theorem cX4_withWhomToSwap_ok {l : Launch} {B : Nat} {D : va_G} {cT : Nat → ClassId} {n : Nat} {adK adV : Nat → Nat} {o0 : Nat} {o1 : Nat} {o2 : Nat} {μ : Mem} {res : Int32 × Mem} (h0 : isK n o0 3) (h1 : isK n o1 1) (h2 : isK n o2 2) (hf : fX4_withWhomToSwap o0 o1 o2 μ = some res) : MI l yX4_withWhomToSwap cX4_withWhomToSwap 10 (some .int) rmX4_withWhomToSwap B D cT (XW B adK adV) n [.ref (B + o0), .ref (B + o1), .ref (B + o2)] μ res := by
  refine tt_ofW mtX4_withWhomToSwap.1 (Nat.le_of_ble_eq_true rfl) rfl ?_
  intro p e s m below meth c E0 hr hlk
  have E : EE p s m _ c cX4_withWhomToSwap 10 RX4 B D cT (XW B adK adV) := E0
  unfold fX4_withWhomToSwap at hf
  refine tt_aload_n (pc := 0) (i := 2) (j := 2) E dX4_withWhomToSwap_0 rfl rfl ?_
  refine tt_getI (pc := 1) E lfX4_78 rfl h2 dX4_withWhomToSwap_1 ?_
  refine tt_if_gt (pc := 4) (tgt := 9) E dX4_withWhomToSwap_4 rfl (fun c_23 => ?_) (fun c_23 => ?_)
  · have hf := ip c_23 hf
    refine tt_aload_n (pc := 9) (i := 0) (j := 0) E dX4_withWhomToSwap_9 rfl rfl ?_
    obtain ⟨q_1, hq_2, hf⟩ := bd_some hf
    refine tt_getP (pc := 10) (t := 1) E lfX4_12 rfl rfl h0 dX4_withWhomToSwap_10 hq_2 (fun kq_3 => ?_)
    refine tt_aload_n (pc := 13) (i := 1) (j := 1) E dX4_withWhomToSwap_13 rfl rfl ?_
    obtain ⟨r_4, hr_5, hf⟩ := bd_some hf
    have hc_6 := cX2_copyFrom_ok (l := l) (B := B) (D := D) (cT := cT) (n := n) (adK := adK) (adV := adV) kq_3 h1 hr_5
    refine tt_cV (pc := 14) (tt_vi E lmX4_29 mtX2_copyFrom hc_6 kq_3 rfl rfl (Nat.le_of_ble_eq_true rfl) ⟨(Nat.le_of_ble_eq_true rfl), (Nat.le_of_ble_eq_true rfl)⟩ ⟨(Nat.le_of_ble_eq_true rfl), (Nat.le_of_ble_eq_true rfl)⟩ dX4_withWhomToSwap_14) ?_
    refine tt_aload_n (pc := 17) (i := 0) (j := 0) E dX4_withWhomToSwap_17 rfl rfl ?_
    obtain ⟨q_7, hq_8, hf⟩ := bd_some hf
    refine tt_getP (pc := 18) (t := 1) E lfX4_12 rfl rfl h0 dX4_withWhomToSwap_18 hq_8 (fun kq_9 => ?_)
    refine tt_bipush (pc := 21) (v := 20) E dX4_withWhomToSwap_21 bc_20 ?_
    obtain ⟨r_10, hr_11, hf⟩ := bd_some hf
    have hc_12 := cX2_playOn_ok (l := l) (B := B) (D := D) (cT := cT) (n := n) (adK := adK) (adV := adV) kq_9 hr_11
    refine tt_cI (pc := 23) (tt_vi E lmX4_33 mtX2_playOn hc_12 kq_9 rfl rfl (Nat.le_of_ble_eq_true rfl) ⟨(Nat.le_of_ble_eq_true rfl), (Nat.le_of_ble_eq_true rfl)⟩ ⟨(Nat.le_of_ble_eq_true rfl), (Nat.le_of_ble_eq_true rfl)⟩ dX4_withWhomToSwap_23) ?_
    refine tt_pop (pc := 26) E dX4_withWhomToSwap_26 rfl ?_
    refine tt_aload_n (pc := 27) (i := 0) (j := 0) E dX4_withWhomToSwap_27 rfl rfl ?_
    obtain ⟨q_13, hq_14, hf⟩ := bd_some hf
    refine tt_getP (pc := 28) (t := 1) E lfX4_12 rfl rfl h0 dX4_withWhomToSwap_28 hq_14 (fun kq_15 => ?_)
    refine tt_aload_n (pc := 31) (i := 2) (j := 2) E dX4_withWhomToSwap_31 rfl rfl ?_
    refine tt_getI (pc := 32) E lfX4_110 rfl h2 dX4_withWhomToSwap_32 ?_
    obtain ⟨r_16, hr_17, hf⟩ := bd_some hf
    have hc_18 := cX2_sideLife_ok (l := l) (B := B) (D := D) (cT := cT) (n := n) (adK := adK) (adV := adV) kq_15 hr_17
    refine tt_cI (pc := 35) (tt_vi E lmX4_116 mtX2_sideLife hc_18 kq_15 rfl rfl (Nat.le_of_ble_eq_true rfl) ⟨(Nat.le_of_ble_eq_true rfl), (Nat.le_of_ble_eq_true rfl)⟩ ⟨(Nat.le_of_ble_eq_true rfl), (Nat.le_of_ble_eq_true rfl)⟩ dX4_withWhomToSwap_35) ?_
    refine tt_istore_n (pc := 38) (i := 3) (lv' := [(3, .int r_16), (0, .ref (B + o0)), (1, .ref (B + o1)), (2, .ref (B + o2))]) E dX4_withWhomToSwap_38 rfl (Nat.le_of_ble_eq_true rfl) rfl ?_
    refine tt_iconst (pc := 39) (v := (-1)) E dX4_withWhomToSwap_39 ic_m1 ?_
    refine tt_istore (pc := 40) (i := 4) (lv' := [(4, .int ((-1))), (3, .int r_16), (0, .ref (B + o0)), (1, .ref (B + o1)), (2, .ref (B + o2))]) E dX4_withWhomToSwap_40 (Nat.le_of_ble_eq_true rfl) rfl ?_
    refine tt_aload_n (pc := 42) (i := 1) (j := 3) E dX4_withWhomToSwap_42 rfl rfl ?_
    obtain ⟨q_19, hq_20, hf⟩ := bd_some hf
    refine tt_getP (pc := 43) (t := 15) E lfX4_88 rfl rfl h1 dX4_withWhomToSwap_43 hq_20 (fun kq_21 => ?_)
    refine tt_astore (pc := 46) (i := 5) (lv' := [(5, .ref (B + q_19)), (4, .int ((-1))), (3, .int r_16), (0, .ref (B + o0)), (1, .ref (B + o1)), (2, .ref (B + o2))]) E dX4_withWhomToSwap_46 (Nat.le_of_ble_eq_true rfl) rfl ?_
    refine tt_aload (pc := 48) (i := 5) (j := 0) E dX4_withWhomToSwap_48 rfl ?_
    refine tt_alen (pc := 50) (v := Int32.ofNat (Ln q_19)) E (k := 15) ⟨(Nat.le_of_ble_eq_true rfl), (Nat.le_of_ble_eq_true rfl)⟩ kq_21 rfl dX4_withWhomToSwap_50 ?_
    refine tt_nmI hf (fun v_22 hf => ?_)
    refine tt_istore (pc := 51) (i := 6) (lv' := [(6, .int v_22), (5, .ref (B + q_19)), (4, .int ((-1))), (3, .int r_16), (0, .ref (B + o0)), (1, .ref (B + o1)), (2, .ref (B + o2))]) E dX4_withWhomToSwap_51 (Nat.le_of_ble_eq_true rfl) rfl ?_
    refine tt_iconst (pc := 53) (v := 0) E dX4_withWhomToSwap_53 ic_0 ?_
    refine tt_istore (pc := 54) (i := 7) (lv' := [(7, .int 0), (6, .int v_22), (5, .ref (B + q_19)), (4, .int ((-1))), (3, .int r_16), (0, .ref (B + o0)), (1, .ref (B + o1)), (2, .ref (B + o2))]) E dX4_withWhomToSwap_54 (Nat.le_of_ble_eq_true rfl) rfl ?_
    refine tt_sub [5, 6, 7, 4, 3, 2, 1, 0] (lv' := [(0, .ref (B + o0)), (1, .ref (B + o1)), (2, .ref (B + o2)), (3, .int r_16), (4, .int ((-1))), (5, .ref (B + q_19)), (6, .int v_22), (7, .int 0)]) rfl ?_
    exact tX4_withWhomToSwap_56 E hr hlk h0 h1 h2 kq_21 FU r_16 ((-1)) 0 r_10.2 hf
  · have hf := ine c_23 hf
    refine tt_iconst (pc := 7) (v := (-1)) E dX4_withWhomToSwap_7 ic_m1 ?_
    exact tt_iret (pc := 8) E hr hlk dX4_withWhomToSwap_8 (Nat.le_of_ble_eq_true rfl) (Nat.le_of_ble_eq_true rfl) hf
set_option maxHeartbeats 4000000 in
theorem tX4_whereToStart_8 {p : Program} {l : Launch} {e : Env} {s : State} {m : MethodId} {args : Array Value} {below : List Frame} {meth : Method} {c : Code} {B : Nat} {D : va_G} {cT : Nat → ClassId} {n : Nat} {adK adV : Nat → Nat} {res : Int32 × Mem} (E : EE p s m args c cX4_whereToStart 7 RX4 B D cT (XW B adK adV)) (hr : meth.sig.returnType = some .int) (hlk : meth.locks = false) {o0 : Nat} {o1 : Nat} {o2 : Nat} (h0 : isK n o0 3) (h1 : isK n o1 1) (h2 : isK n o2 2) : ∀ (fu : Nat) (v3 : Int32) (v4 : Int32) (v5 : Int32) (μ : Mem), zl4 (gX4_whereToStart_8 o0 o1 o2) fu v3 v4 v5 μ = some res → TT p l e rmX4_whereToStart s m args below meth c (QI B D cT n below args s res) 7 B D cT n 0 0 μ 8 [(0, .ref (B + o0)), (1, .ref (B + o1)), (2, .ref (B + o2)), (3, .int v3), (4, .int v4), (5, .int v5)] [] := by
  intro fu
  induction fu with
  | zero => intro v3 v4 v5 μ hf; exact absurd hf (fun h => by cases h)
  | succ fu ih =>
    intro v3 v4 v5 μ hf
    have hf : gX4_whereToStart_8 o0 o1 o2 (zl4 (gX4_whereToStart_8 o0 o1 o2) fu) v3 v4 v5 μ = some res := hf
    unfold gX4_whereToStart_8 at hf
    refine tt_iload (pc := 8) (i := 5) (j := 5) E dX4_whereToStart_8 rfl ?_
    refine tt_aload_n (pc := 10) (i := 2) (j := 2) E dX4_whereToStart_10 rfl rfl ?_
    refine tt_getI (pc := 11) E lfX4_122 rfl h2 dX4_whereToStart_11 ?_
    refine tt_icmp_ge (pc := 14) (tgt := 84) E dX4_whereToStart_14 rfl (fun c_30 => ?_) (fun c_30 => ?_)
    · have hf := ip c_30 hf
      refine tt_iload_n (pc := 84) (i := 3) (j := 3) E dX4_whereToStart_84 rfl rfl ?_
      exact tt_iret (pc := 85) E hr hlk dX4_whereToStart_85 (Nat.le_of_ble_eq_true rfl) (Nat.le_of_ble_eq_true rfl) hf
    · have hf := ine c_30 hf
      refine tt_aload_n (pc := 17) (i := 0) (j := 0) E dX4_whereToStart_17 rfl rfl ?_
      obtain ⟨q_1, hq_2, hf⟩ := bd_some hf
      refine tt_getP (pc := 18) (t := 1) E lfX4_12 rfl rfl h0 dX4_whereToStart_18 hq_2 (fun kq_3 => ?_)
      refine tt_aload_n (pc := 21) (i := 1) (j := 1) E dX4_whereToStart_21 rfl rfl ?_
      obtain ⟨r_4, hr_5, hf⟩ := bd_some hf
      have hc_6 := cX2_copyFrom_ok (l := l) (B := B) (D := D) (cT := cT) (n := n) (adK := adK) (adV := adV) kq_3 h1 hr_5
      refine tt_cV (pc := 22) (tt_vi E lmX4_29 mtX2_copyFrom hc_6 kq_3 rfl rfl (Nat.le_of_ble_eq_true rfl) ⟨(Nat.le_of_ble_eq_true rfl), (Nat.le_of_ble_eq_true rfl)⟩ ⟨(Nat.le_of_ble_eq_true rfl), (Nat.le_of_ble_eq_true rfl)⟩ dX4_whereToStart_22) ?_
      refine tt_aload_n (pc := 25) (i := 0) (j := 0) E dX4_whereToStart_25 rfl rfl ?_
      obtain ⟨q_7, hq_8, hf⟩ := bd_some hf
      refine tt_getP (pc := 26) (t := 1) E lfX4_12 rfl rfl h0 dX4_whereToStart_26 hq_8 (fun kq_9 => ?_)
      refine tt_aload_n (pc := 29) (i := 2) (j := 2) E dX4_whereToStart_29 rfl rfl ?_
      refine tt_getI (pc := 30) E lfX4_92 rfl h2 dX4_whereToStart_30 ?_
      obtain ⟨r_10, hr_11, hf⟩ := bd_some hf
      have hc_12 := cX2_at_ok (l := l) (B := B) (D := D) (cT := cT) (n := n) (adK := adK) (adV := adV) kq_9 hr_11
      refine tt_cP (pc := 33) (tt_vi E lmX4_74 mtX2_at hc_12 kq_9 rfl rfl (Nat.le_of_ble_eq_true rfl) ⟨(Nat.le_of_ble_eq_true rfl), (Nat.le_of_ble_eq_true rfl)⟩ ⟨(Nat.le_of_ble_eq_true rfl), (Nat.le_of_ble_eq_true rfl)⟩ dX4_whereToStart_33) (fun kq_13 => ?_)
      refine tt_iload (pc := 36) (i := 5) (j := 5) E dX4_whereToStart_36 rfl ?_
      refine tt_putI (pc := 38) E lfX4_52 rfl kq_13 dX4_whereToStart_38 (tt_nmM hf (fun m_14 hf => ?_))
      refine tt_aload_n (pc := 41) (i := 0) (j := 0) E dX4_whereToStart_41 rfl rfl ?_
      obtain ⟨q_15, hq_16, hf⟩ := bd_some hf
      refine tt_getP (pc := 42) (t := 1) E lfX4_12 rfl rfl h0 dX4_whereToStart_42 hq_16 (fun kq_17 => ?_)
      refine tt_bipush (pc := 45) (v := 20) E dX4_whereToStart_45 bc_20 ?_
      obtain ⟨r_18, hr_19, hf⟩ := bd_some hf
      have hc_20 := cX2_playOn_ok (l := l) (B := B) (D := D) (cT := cT) (n := n) (adK := adK) (adV := adV) kq_17 hr_19
      refine tt_cI (pc := 47) (tt_vi E lmX4_33 mtX2_playOn hc_20 kq_17 rfl rfl (Nat.le_of_ble_eq_true rfl) ⟨(Nat.le_of_ble_eq_true rfl), (Nat.le_of_ble_eq_true rfl)⟩ ⟨(Nat.le_of_ble_eq_true rfl), (Nat.le_of_ble_eq_true rfl)⟩ dX4_whereToStart_47) ?_
      refine tt_pop (pc := 50) E dX4_whereToStart_50 rfl ?_
      refine tt_aload_n (pc := 51) (i := 0) (j := 0) E dX4_whereToStart_51 rfl rfl ?_
      obtain ⟨q_21, hq_22, hf⟩ := bd_some hf
      refine tt_getP (pc := 52) (t := 1) E lfX4_12 rfl rfl h0 dX4_whereToStart_52 hq_22 (fun kq_23 => ?_)
      refine tt_aload_n (pc := 55) (i := 2) (j := 2) E dX4_whereToStart_55 rfl rfl ?_
      refine tt_getI (pc := 56) E lfX4_110 rfl h2 dX4_whereToStart_56 ?_
      obtain ⟨r_24, hr_25, hf⟩ := bd_some hf
      have hc_26 := cX2_sideLife_ok (l := l) (B := B) (D := D) (cT := cT) (n := n) (adK := adK) (adV := adV) kq_23 hr_25
      refine tt_cI (pc := 59) (tt_vi E lmX4_116 mtX2_sideLife hc_26 kq_23 rfl rfl (Nat.le_of_ble_eq_true rfl) ⟨(Nat.le_of_ble_eq_true rfl), (Nat.le_of_ble_eq_true rfl)⟩ ⟨(Nat.le_of_ble_eq_true rfl), (Nat.le_of_ble_eq_true rfl)⟩ dX4_whereToStart_59) ?_
      refine tt_istore (pc := 62) (i := 6) (lv' := [(6, .int r_24), (0, .ref (B + o0)), (1, .ref (B + o1)), (2, .ref (B + o2)), (3, .int v3), (4, .int v4), (5, .int v5)]) E dX4_whereToStart_62 (Nat.le_of_ble_eq_true rfl) rfl ?_
      refine tt_iload (pc := 64) (i := 6) (j := 0) E dX4_whereToStart_64 rfl ?_
      refine tt_iload (pc := 66) (i := 4) (j := 5) E dX4_whereToStart_66 rfl ?_
      refine tt_icmp_le (pc := 68) (tgt := 78) E dX4_whereToStart_68 rfl (fun c_29 => ?_) (fun c_29 => ?_)
      · have hf := ip c_29 hf
        obtain ⟨v_27, ev_27, hf⟩ := nm_ex hf
        refine tt_iinc (pc := 78) (i := 5) (j := 6) (lv' := [(5, .int v_27), (6, .int r_24), (0, .ref (B + o0)), (1, .ref (B + o1)), (2, .ref (B + o2)), (3, .int v3), (4, .int v4)]) E dX4_whereToStart_78 rfl (ev_27).symm (Nat.le_of_ble_eq_true rfl) rfl ?_
        refine tt_goto (pc := 81) (tgt := 8) E dX4_whereToStart_81 rfl ?_
        refine tt_sub [2, 3, 4, 5, 6, 0] (lv' := [(0, .ref (B + o0)), (1, .ref (B + o1)), (2, .ref (B + o2)), (3, .int v3), (4, .int v4), (5, .int v_27)]) rfl ?_
        exact ih v3 v4 v_27 r_18.2 hf
      · have hf := ine c_29 hf
        refine tt_iload (pc := 71) (i := 6) (j := 0) E dX4_whereToStart_71 rfl ?_
        refine tt_istore (pc := 73) (i := 4) (lv' := [(4, .int r_24), (6, .int r_24), (0, .ref (B + o0)), (1, .ref (B + o1)), (2, .ref (B + o2)), (3, .int v3), (5, .int v5)]) E dX4_whereToStart_73 (Nat.le_of_ble_eq_true rfl) rfl ?_
        refine tt_iload (pc := 75) (i := 5) (j := 6) E dX4_whereToStart_75 rfl ?_
        refine tt_istore_n (pc := 77) (i := 3) (lv' := [(3, .int v5), (4, .int r_24), (6, .int r_24), (0, .ref (B + o0)), (1, .ref (B + o1)), (2, .ref (B + o2)), (5, .int v5)]) E dX4_whereToStart_77 rfl (Nat.le_of_ble_eq_true rfl) rfl ?_
        obtain ⟨v_28, ev_28, hf⟩ := nm_ex hf
        refine tt_iinc (pc := 78) (i := 5) (j := 6) (lv' := [(5, .int v_28), (3, .int v5), (4, .int r_24), (6, .int r_24), (0, .ref (B + o0)), (1, .ref (B + o1)), (2, .ref (B + o2))]) E dX4_whereToStart_78 rfl (ev_28).symm (Nat.le_of_ble_eq_true rfl) rfl ?_
        refine tt_goto (pc := 81) (tgt := 8) E dX4_whereToStart_81 rfl ?_
        refine tt_sub [4, 5, 6, 1, 2, 0] (lv' := [(0, .ref (B + o0)), (1, .ref (B + o1)), (2, .ref (B + o2)), (3, .int v5), (4, .int r_24), (5, .int v_28)]) rfl ?_
        exact ih v5 r_24 v_28 r_18.2 hf
set_option maxHeartbeats 4000000 in
theorem cX4_whereToStart_ok {l : Launch} {B : Nat} {D : va_G} {cT : Nat → ClassId} {n : Nat} {adK adV : Nat → Nat} {o0 : Nat} {o1 : Nat} {o2 : Nat} {μ : Mem} {res : Int32 × Mem} (h0 : isK n o0 3) (h1 : isK n o1 1) (h2 : isK n o2 2) (hf : fX4_whereToStart o0 o1 o2 μ = some res) : MI l yX4_whereToStart cX4_whereToStart 7 (some .int) rmX4_whereToStart B D cT (XW B adK adV) n [.ref (B + o0), .ref (B + o1), .ref (B + o2)] μ res := by
  refine tt_ofW mtX4_whereToStart.1 (Nat.le_of_ble_eq_true rfl) rfl ?_
  intro p e s m below meth c E0 hr hlk
  have E : EE p s m _ c cX4_whereToStart 7 RX4 B D cT (XW B adK adV) := E0
  unfold fX4_whereToStart at hf
  refine tt_iconst (pc := 0) (v := (-1)) E dX4_whereToStart_0 ic_m1 ?_
  refine tt_istore_n (pc := 1) (i := 3) (lv' := [(3, .int ((-1))), (0, .ref (B + o0)), (1, .ref (B + o1)), (2, .ref (B + o2))]) E dX4_whereToStart_1 rfl (Nat.le_of_ble_eq_true rfl) rfl ?_
  refine tt_iconst (pc := 2) (v := (-1)) E dX4_whereToStart_2 ic_m1 ?_
  refine tt_istore (pc := 3) (i := 4) (lv' := [(4, .int ((-1))), (3, .int ((-1))), (0, .ref (B + o0)), (1, .ref (B + o1)), (2, .ref (B + o2))]) E dX4_whereToStart_3 (Nat.le_of_ble_eq_true rfl) rfl ?_
  refine tt_iconst (pc := 5) (v := 0) E dX4_whereToStart_5 ic_0 ?_
  refine tt_istore (pc := 6) (i := 5) (lv' := [(5, .int 0), (4, .int ((-1))), (3, .int ((-1))), (0, .ref (B + o0)), (1, .ref (B + o1)), (2, .ref (B + o2))]) E dX4_whereToStart_6 (Nat.le_of_ble_eq_true rfl) rfl ?_
  refine tt_sub [3, 4, 5, 2, 1, 0] (lv' := [(0, .ref (B + o0)), (1, .ref (B + o1)), (2, .ref (B + o2)), (3, .int ((-1))), (4, .int ((-1))), (5, .int 0)]) rfl ?_
  exact tX4_whereToStart_8 E hr hlk h0 h1 h2 FU ((-1)) ((-1)) 0 μ hf
set_option maxHeartbeats 4000000 in
theorem cX5_forget_ok {l : Launch} {B : Nat} {D : va_G} {cT : Nat → ClassId} {n : Nat} {adK adV : Nat → Nat} {o0 : Nat} {μ : Mem} {res : Mem} (h0 : isK n o0 4) (hf : fX5_forget o0 μ = some res) : MV l yX5_forget cX5_forget 1 (none) rmX5_forget B D cT (XW B adK adV) n [.ref (B + o0)] μ res := by
  refine tt_ofW mtX5_forget.1 (Nat.le_of_ble_eq_true rfl) rfl ?_
  intro p e s m below meth c E0 hr hlk
  have E : EE p s m _ c cX5_forget 1 RX5 B D cT (XW B adK adV) := E0
  unfold fX5_forget at hf
  refine tt_aload_n (pc := 0) (i := 0) (j := 0) E dX5_forget_0 rfl rfl ?_
  refine tt_iconst (pc := 1) (v := 0) E dX5_forget_1 ic_0 ?_
  refine tt_putI (pc := 2) E lfX5_17 rfl h0 dX5_forget_2 (tt_nmM hf (fun m_1 hf => ?_))
  exact tt_vret (pc := 5) E hr hlk dX5_forget_5 (Nat.le_of_ble_eq_true rfl) (Nat.le_of_ble_eq_true rfl) hf
set_option maxHeartbeats 4000000 in
theorem tX5_dropOldest_9 {p : Program} {l : Launch} {e : Env} {s : State} {m : MethodId} {args : Array Value} {below : List Frame} {meth : Method} {c : Code} {B : Nat} {D : va_G} {cT : Nat → ClassId} {n : Nat} {adK adV : Nat → Nat} {res : Mem} (E : EE p s m args c cX5_dropOldest 3 RX5 B D cT (XW B adK adV)) (hr : meth.sig.returnType = none) (hlk : meth.locks = false) {o0 : Nat} {o1 : Nat} (h0 : isK n o0 4) (h1 : isK n o1 1) : ∀ (fu : Nat) (v2 : Int32) (μ : Mem), zl2 (gX5_dropOldest_9 o0 o1) fu v2 μ = some res → TT p l e rmX5_dropOldest s m args below meth c (QV B D cT n below args s res) 3 B D cT n 0 0 μ 9 [(0, .ref (B + o0)), (1, .ref (B + o1)), (2, .int v2)] [] := by
  intro fu
  induction fu with
  | zero => intro v2 μ hf; exact absurd hf (fun h => by cases h)
  | succ fu ih =>
    intro v2 μ hf
    have hf : gX5_dropOldest_9 o0 o1 (zl2 (gX5_dropOldest_9 o0 o1) fu) v2 μ = some res := hf
    unfold gX5_dropOldest_9 at hf
    refine tt_iload_n (pc := 9) (i := 2) (j := 2) E dX5_dropOldest_9 rfl rfl ?_
    refine tt_aload_n (pc := 10) (i := 0) (j := 0) E dX5_dropOldest_10 rfl rfl ?_
    obtain ⟨q_1, hq_2, hf⟩ := bd_some hf
    refine tt_getP (pc := 11) (t := 14) E lfX5_11 rfl rfl h0 dX5_dropOldest_11 hq_2 (fun kq_3 => ?_)
    refine tt_alen (pc := 14) (v := Int32.ofNat (Ln q_1)) E (k := 14) ⟨(Nat.le_of_ble_eq_true rfl), (Nat.le_of_ble_eq_true rfl)⟩ kq_3 rfl dX5_dropOldest_14 ?_
    refine tt_icmp_ge (pc := 15) (tgt := 38) E dX5_dropOldest_15 rfl (fun c_29 => ?_) (fun c_29 => ?_)
    · have hf := ip c_29 hf
      refine tt_aload_n (pc := 38) (i := 0) (j := 0) E dX5_dropOldest_38 rfl rfl ?_
      obtain ⟨q_4, hq_5, hf⟩ := bd_some hf
      refine tt_getP (pc := 39) (t := 14) E lfX5_11 rfl rfl h0 dX5_dropOldest_39 hq_5 (fun kq_6 => ?_)
      refine tt_aload_n (pc := 42) (i := 0) (j := 0) E dX5_dropOldest_42 rfl rfl ?_
      obtain ⟨q_7, hq_8, hf⟩ := bd_some hf
      refine tt_getP (pc := 43) (t := 14) E lfX5_11 rfl rfl h0 dX5_dropOldest_43 hq_8 (fun kq_9 => ?_)
      refine tt_alen (pc := 46) (v := Int32.ofNat (Ln q_7)) E (k := 14) ⟨(Nat.le_of_ble_eq_true rfl), (Nat.le_of_ble_eq_true rfl)⟩ kq_9 rfl dX5_dropOldest_46 ?_
      refine tt_iconst (pc := 47) (v := 1) E dX5_dropOldest_47 ic_1 ?_
      refine tt_isub (pc := 48) E dX5_dropOldest_48 ?_
      refine tt_aload_n (pc := 49) (i := 1) (j := 1) E dX5_dropOldest_49 rfl rfl ?_
      obtain ⟨g_11, hf⟩ := gd_some hf
      refine tt_aast14 (pc := 50) E kq_6 g_11 h1 dX5_dropOldest_50 (tt_nmM hf (fun m_10 hf => ?_))
      refine tt_aload_n (pc := 51) (i := 0) (j := 0) E dX5_dropOldest_51 rfl rfl ?_
      refine tt_aload_n (pc := 52) (i := 0) (j := 0) E dX5_dropOldest_52 rfl rfl ?_
      obtain ⟨q_12, hq_13, hf⟩ := bd_some hf
      refine tt_getP (pc := 53) (t := 14) E lfX5_11 rfl rfl h0 dX5_dropOldest_53 hq_13 (fun kq_14 => ?_)
      refine tt_alen (pc := 56) (v := Int32.ofNat (Ln q_12)) E (k := 14) ⟨(Nat.le_of_ble_eq_true rfl), (Nat.le_of_ble_eq_true rfl)⟩ kq_14 rfl dX5_dropOldest_56 ?_
      refine tt_iconst (pc := 57) (v := 1) E dX5_dropOldest_57 ic_1 ?_
      refine tt_isub (pc := 58) E dX5_dropOldest_58 ?_
      refine tt_putI (pc := 59) E lfX5_17 rfl h0 dX5_dropOldest_59 (tt_nmM hf (fun m_15 hf => ?_))
      exact tt_vret (pc := 62) E hr hlk dX5_dropOldest_62 (Nat.le_of_ble_eq_true rfl) (Nat.le_of_ble_eq_true rfl) hf
    · have hf := ine c_29 hf
      refine tt_aload_n (pc := 18) (i := 0) (j := 0) E dX5_dropOldest_18 rfl rfl ?_
      obtain ⟨q_16, hq_17, hf⟩ := bd_some hf
      refine tt_getP (pc := 19) (t := 14) E lfX5_11 rfl rfl h0 dX5_dropOldest_19 hq_17 (fun kq_18 => ?_)
      refine tt_iload_n (pc := 22) (i := 2) (j := 2) E dX5_dropOldest_22 rfl rfl ?_
      refine tt_iconst (pc := 23) (v := 1) E dX5_dropOldest_23 ic_1 ?_
      refine tt_isub (pc := 24) E dX5_dropOldest_24 ?_
      refine tt_aload_n (pc := 25) (i := 0) (j := 0) E dX5_dropOldest_25 rfl rfl ?_
      obtain ⟨q_19, hq_20, hf⟩ := bd_some hf
      refine tt_getP (pc := 26) (t := 14) E lfX5_11 rfl rfl h0 dX5_dropOldest_26 hq_20 (fun kq_21 => ?_)
      refine tt_iload_n (pc := 29) (i := 2) (j := 2) E dX5_dropOldest_29 rfl rfl ?_
      obtain ⟨g_22, hf⟩ := gd_some hf
      obtain ⟨q_23, hq_24, hf⟩ := bd_some hf
      refine tt_aald14 (pc := 30) E kq_21 g_22 dX5_dropOldest_30 hq_24 (fun kq_25 => ?_)
      obtain ⟨g_27, hf⟩ := gd_some hf
      refine tt_aast14 (pc := 31) E kq_18 g_27 kq_25 dX5_dropOldest_31 (tt_nmM hf (fun m_26 hf => ?_))
      obtain ⟨v_28, ev_28, hf⟩ := nm_ex hf
      refine tt_iinc (pc := 32) (i := 2) (j := 2) (lv' := [(2, .int v_28), (0, .ref (B + o0)), (1, .ref (B + o1))]) E dX5_dropOldest_32 rfl (ev_28).symm (Nat.le_of_ble_eq_true rfl) rfl ?_
      refine tt_goto (pc := 35) (tgt := 9) E dX5_dropOldest_35 rfl ?_
      refine tt_sub [1, 2, 0] (lv' := [(0, .ref (B + o0)), (1, .ref (B + o1)), (2, .int v_28)]) rfl ?_
      exact ih v_28 m_26 hf
set_option maxHeartbeats 4000000 in
theorem cX5_dropOldest_ok {l : Launch} {B : Nat} {D : va_G} {cT : Nat → ClassId} {n : Nat} {adK adV : Nat → Nat} {o0 : Nat} {μ : Mem} {res : Mem} (h0 : isK n o0 4) (hf : fX5_dropOldest o0 μ = some res) : MV l yX5_dropOldest cX5_dropOldest 3 (none) rmX5_dropOldest B D cT (XW B adK adV) n [.ref (B + o0)] μ res := by
  refine tt_ofW mtX5_dropOldest.1 (Nat.le_of_ble_eq_true rfl) rfl ?_
  intro p e s m below meth c E0 hr hlk
  have E : EE p s m _ c cX5_dropOldest 3 RX5 B D cT (XW B adK adV) := E0
  unfold fX5_dropOldest at hf
  refine tt_aload_n (pc := 0) (i := 0) (j := 0) E dX5_dropOldest_0 rfl rfl ?_
  obtain ⟨q_1, hq_2, hf⟩ := bd_some hf
  refine tt_getP (pc := 1) (t := 14) E lfX5_11 rfl rfl h0 dX5_dropOldest_1 hq_2 (fun kq_3 => ?_)
  refine tt_iconst (pc := 4) (v := 0) E dX5_dropOldest_4 ic_0 ?_
  obtain ⟨g_4, hf⟩ := gd_some hf
  obtain ⟨q_5, hq_6, hf⟩ := bd_some hf
  refine tt_aald14 (pc := 5) E kq_3 g_4 dX5_dropOldest_5 hq_6 (fun kq_7 => ?_)
  refine tt_astore_n (pc := 6) (i := 1) (lv' := [(1, .ref (B + q_5)), (0, .ref (B + o0))]) E dX5_dropOldest_6 rfl (Nat.le_of_ble_eq_true rfl) rfl ?_
  refine tt_iconst (pc := 7) (v := 1) E dX5_dropOldest_7 ic_1 ?_
  refine tt_istore_n (pc := 8) (i := 2) (lv' := [(2, .int 1), (1, .ref (B + q_5)), (0, .ref (B + o0))]) E dX5_dropOldest_8 rfl (Nat.le_of_ble_eq_true rfl) rfl ?_
  refine tt_sub [2, 1, 0] (lv' := [(0, .ref (B + o0)), (1, .ref (B + q_5)), (2, .int 1)]) rfl ?_
  exact tX5_dropOldest_9 E hr hlk h0 kq_7 FU 1 μ hf
set_option maxHeartbeats 4000000 in
theorem tX5_keep_16 {p : Program} {l : Launch} {e : Env} {s : State} {m : MethodId} {args : Array Value} {below : List Frame} {meth : Method} {c : Code} {B : Nat} {D : va_G} {cT : Nat → ClassId} {n : Nat} {adK adV : Nat → Nat} {res : Mem} (E : EE p s m args c cX5_keep 2 RX5 B D cT (XW B adK adV)) (hr : meth.sig.returnType = none) (hlk : meth.locks = false) {o0 : Nat} {o1 : Nat} (h0 : isK n o0 4) (h1 : isK n o1 1) {μ : Mem} (hf : fX5_keep_16 o0 o1 μ = some res) : TT p l e rmX5_keep s m args below meth c (QV B D cT n below args s res) 2 B D cT n 0 0 μ 16 [(0, .ref (B + o0)), (1, .ref (B + o1))] [] := by
  unfold fX5_keep_16 at hf
  refine tt_aload_n (pc := 16) (i := 0) (j := 0) E dX5_keep_16 rfl rfl ?_
  refine tt_getI (pc := 17) E lfX5_17 rfl h0 dX5_keep_17 ?_
  refine tt_if_lt (pc := 20) (tgt := 58) E dX5_keep_20 rfl (fun c_16 => ?_) (fun c_16 => ?_)
  · have hf := ip c_16 hf
    exact tt_vret (pc := 58) E hr hlk dX5_keep_58 (Nat.le_of_ble_eq_true rfl) (Nat.le_of_ble_eq_true rfl) hf
  · have hf := ine c_16 hf
    refine tt_aload_n (pc := 23) (i := 0) (j := 0) E dX5_keep_23 rfl rfl ?_
    refine tt_getI (pc := 24) E lfX5_17 rfl h0 dX5_keep_24 ?_
    refine tt_aload_n (pc := 27) (i := 0) (j := 0) E dX5_keep_27 rfl rfl ?_
    obtain ⟨q_1, hq_2, hf⟩ := bd_some hf
    refine tt_getP (pc := 28) (t := 14) E lfX5_11 rfl rfl h0 dX5_keep_28 hq_2 (fun kq_3 => ?_)
    refine tt_alen (pc := 31) (v := Int32.ofNat (Ln q_1)) E (k := 14) ⟨(Nat.le_of_ble_eq_true rfl), (Nat.le_of_ble_eq_true rfl)⟩ kq_3 rfl dX5_keep_31 ?_
    refine tt_icmp_ge (pc := 32) (tgt := 58) E dX5_keep_32 rfl (fun c_15 => ?_) (fun c_15 => ?_)
    · have hf := ip c_15 hf
      exact tt_vret (pc := 58) E hr hlk dX5_keep_58 (Nat.le_of_ble_eq_true rfl) (Nat.le_of_ble_eq_true rfl) hf
    · have hf := ine c_15 hf
      refine tt_aload_n (pc := 35) (i := 0) (j := 0) E dX5_keep_35 rfl rfl ?_
      obtain ⟨q_4, hq_5, hf⟩ := bd_some hf
      refine tt_getP (pc := 36) (t := 14) E lfX5_11 rfl rfl h0 dX5_keep_36 hq_5 (fun kq_6 => ?_)
      refine tt_aload_n (pc := 39) (i := 0) (j := 0) E dX5_keep_39 rfl rfl ?_
      refine tt_getI (pc := 40) E lfX5_17 rfl h0 dX5_keep_40 ?_
      obtain ⟨g_7, hf⟩ := gd_some hf
      obtain ⟨q_8, hq_9, hf⟩ := bd_some hf
      refine tt_aald14 (pc := 43) E kq_6 g_7 dX5_keep_43 hq_9 (fun kq_10 => ?_)
      refine tt_aload_n (pc := 44) (i := 1) (j := 1) E dX5_keep_44 rfl rfl ?_
      obtain ⟨r_11, hr_12, hf⟩ := bd_some hf
      have hc_13 := cX2_copyFrom_ok (l := l) (B := B) (D := D) (cT := cT) (n := n) (adK := adK) (adV := adV) kq_10 h1 hr_12
      refine tt_cV (pc := 45) (tt_vi E lmX5_25 mtX2_copyFrom hc_13 kq_10 rfl rfl (Nat.le_of_ble_eq_true rfl) ⟨(Nat.le_of_ble_eq_true rfl), (Nat.le_of_ble_eq_true rfl)⟩ ⟨(Nat.le_of_ble_eq_true rfl), (Nat.le_of_ble_eq_true rfl)⟩ dX5_keep_45) ?_
      refine tt_aload_n (pc := 48) (i := 0) (j := 0) E dX5_keep_48 rfl rfl ?_
      refine tt_dup (pc := 49) E dX5_keep_49 rfl ?_
      refine tt_getI (pc := 50) E lfX5_17 rfl h0 dX5_keep_50 ?_
      refine tt_iconst (pc := 53) (v := 1) E dX5_keep_53 ic_1 ?_
      refine tt_iadd (pc := 54) E dX5_keep_54 ?_
      refine tt_putI (pc := 55) E lfX5_17 rfl h0 dX5_keep_55 (tt_nmM hf (fun m_14 hf => ?_))
      exact tt_vret (pc := 58) E hr hlk dX5_keep_58 (Nat.le_of_ble_eq_true rfl) (Nat.le_of_ble_eq_true rfl) hf
set_option maxHeartbeats 4000000 in
theorem cX5_keep_ok {l : Launch} {B : Nat} {D : va_G} {cT : Nat → ClassId} {n : Nat} {adK adV : Nat → Nat} {o0 : Nat} {o1 : Nat} {μ : Mem} {res : Mem} (h0 : isK n o0 4) (h1 : isK n o1 1) (hf : fX5_keep o0 o1 μ = some res) : MV l yX5_keep cX5_keep 2 (none) rmX5_keep B D cT (XW B adK adV) n [.ref (B + o0), .ref (B + o1)] μ res := by
  refine tt_ofW mtX5_keep.1 (Nat.le_of_ble_eq_true rfl) rfl ?_
  intro p e s m below meth c E0 hr hlk
  have E : EE p s m _ c cX5_keep 2 RX5 B D cT (XW B adK adV) := E0
  unfold fX5_keep at hf
  refine tt_aload_n (pc := 0) (i := 0) (j := 0) E dX5_keep_0 rfl rfl ?_
  refine tt_getI (pc := 1) E lfX5_17 rfl h0 dX5_keep_1 ?_
  refine tt_aload_n (pc := 4) (i := 0) (j := 0) E dX5_keep_4 rfl rfl ?_
  obtain ⟨q_1, hq_2, hf⟩ := bd_some hf
  refine tt_getP (pc := 5) (t := 14) E lfX5_11 rfl rfl h0 dX5_keep_5 hq_2 (fun kq_3 => ?_)
  refine tt_alen (pc := 8) (v := Int32.ofNat (Ln q_1)) E (k := 14) ⟨(Nat.le_of_ble_eq_true rfl), (Nat.le_of_ble_eq_true rfl)⟩ kq_3 rfl dX5_keep_8 ?_
  refine tt_icmp_lt (pc := 9) (tgt := 16) E dX5_keep_9 rfl (fun c_7 => ?_) (fun c_7 => ?_)
  · have hf := ip c_7 hf
    exact tX5_keep_16 E hr hlk h0 h1 hf
  · have hf := ine c_7 hf
    refine tt_aload_n (pc := 12) (i := 0) (j := 0) E dX5_keep_12 rfl rfl ?_
    obtain ⟨r_4, hr_5, hf⟩ := bd_some hf
    have hc_6 := cX5_dropOldest_ok (l := l) (B := B) (D := D) (cT := cT) (n := n) (adK := adK) (adV := adV) h0 hr_5
    refine tt_cV (pc := 13) (tt_vi E lmX5_22 mtX5_dropOldest hc_6 h0 rfl rfl (Nat.le_of_ble_eq_true rfl) ⟨(Nat.le_of_ble_eq_true rfl), (Nat.le_of_ble_eq_true rfl)⟩ ⟨(Nat.le_of_ble_eq_true rfl), (Nat.le_of_ble_eq_true rfl)⟩ dX5_keep_13) ?_
    exact tX5_keep_16 E hr hlk h0 h1 hf
set_option maxHeartbeats 4000000 in
theorem cX5_goBack_ok {l : Launch} {B : Nat} {D : va_G} {cT : Nat → ClassId} {n : Nat} {adK adV : Nat → Nat} {o0 : Nat} {o1 : Nat} {μ : Mem} {res : Int32 × Mem} (h0 : isK n o0 4) (h1 : isK n o1 1) (hf : fX5_goBack o0 o1 μ = some res) : MZ l yX5_goBack cX5_goBack 2 (some .boolean) rmX5_goBack B D cT (XW B adK adV) n [.ref (B + o0), .ref (B + o1)] μ res := by
  refine tt_ofW mtX5_goBack.1 (Nat.le_of_ble_eq_true rfl) rfl ?_
  intro p e s m below meth c E0 hr hlk
  have E : EE p s m _ c cX5_goBack 2 RX5 B D cT (XW B adK adV) := E0
  unfold fX5_goBack at hf
  refine tt_aload_n (pc := 0) (i := 0) (j := 0) E dX5_goBack_0 rfl rfl ?_
  refine tt_getI (pc := 1) E lfX5_17 rfl h0 dX5_goBack_1 ?_
  refine tt_iconst (pc := 4) (v := 1) E dX5_goBack_4 ic_1 ?_
  refine tt_icmp_lt (pc := 5) (tgt := 20) E dX5_goBack_5 rfl (fun c_16 => ?_) (fun c_16 => ?_)
  · have hf := ip c_16 hf
    refine tt_iconst (pc := 20) (v := 0) E dX5_goBack_20 ic_0 ?_
    exact tt_zret (pc := 21) E ((Or.inl rfl)) hr hlk dX5_goBack_21 (Nat.le_of_ble_eq_true rfl) (Nat.le_of_ble_eq_true rfl) hf
  · have hf := ine c_16 hf
    refine tt_aload_n (pc := 8) (i := 0) (j := 0) E dX5_goBack_8 rfl rfl ?_
    refine tt_getI (pc := 9) E lfX5_17 rfl h0 dX5_goBack_9 ?_
    refine tt_aload_n (pc := 12) (i := 0) (j := 0) E dX5_goBack_12 rfl rfl ?_
    obtain ⟨q_1, hq_2, hf⟩ := bd_some hf
    refine tt_getP (pc := 13) (t := 14) E lfX5_11 rfl rfl h0 dX5_goBack_13 hq_2 (fun kq_3 => ?_)
    refine tt_alen (pc := 16) (v := Int32.ofNat (Ln q_1)) E (k := 14) ⟨(Nat.le_of_ble_eq_true rfl), (Nat.le_of_ble_eq_true rfl)⟩ kq_3 rfl dX5_goBack_16 ?_
    refine tt_icmp_le (pc := 17) (tgt := 22) E dX5_goBack_17 rfl (fun c_15 => ?_) (fun c_15 => ?_)
    · have hf := ip c_15 hf
      refine tt_aload_n (pc := 22) (i := 0) (j := 0) E dX5_goBack_22 rfl rfl ?_
      refine tt_dup (pc := 23) E dX5_goBack_23 rfl ?_
      refine tt_getI (pc := 24) E lfX5_17 rfl h0 dX5_goBack_24 ?_
      refine tt_iconst (pc := 27) (v := 1) E dX5_goBack_27 ic_1 ?_
      refine tt_isub (pc := 28) E dX5_goBack_28 ?_
      refine tt_putI (pc := 29) E lfX5_17 rfl h0 dX5_goBack_29 (tt_nmM hf (fun m_4 hf => ?_))
      refine tt_aload_n (pc := 32) (i := 1) (j := 1) E dX5_goBack_32 rfl rfl ?_
      refine tt_aload_n (pc := 33) (i := 0) (j := 0) E dX5_goBack_33 rfl rfl ?_
      obtain ⟨q_5, hq_6, hf⟩ := bd_some hf
      refine tt_getP (pc := 34) (t := 14) E lfX5_11 rfl rfl h0 dX5_goBack_34 hq_6 (fun kq_7 => ?_)
      refine tt_aload_n (pc := 37) (i := 0) (j := 0) E dX5_goBack_37 rfl rfl ?_
      refine tt_getI (pc := 38) E lfX5_17 rfl h0 dX5_goBack_38 ?_
      obtain ⟨g_8, hf⟩ := gd_some hf
      obtain ⟨q_9, hq_10, hf⟩ := bd_some hf
      refine tt_aald14 (pc := 41) E kq_7 g_8 dX5_goBack_41 hq_10 (fun kq_11 => ?_)
      obtain ⟨r_12, hr_13, hf⟩ := bd_some hf
      have hc_14 := cX2_copyFrom_ok (l := l) (B := B) (D := D) (cT := cT) (n := n) (adK := adK) (adV := adV) h1 kq_11 hr_13
      refine tt_cV (pc := 42) (tt_vi E lmX5_25 mtX2_copyFrom hc_14 h1 rfl rfl (Nat.le_of_ble_eq_true rfl) ⟨(Nat.le_of_ble_eq_true rfl), (Nat.le_of_ble_eq_true rfl)⟩ ⟨(Nat.le_of_ble_eq_true rfl), (Nat.le_of_ble_eq_true rfl)⟩ dX5_goBack_42) ?_
      refine tt_iconst (pc := 45) (v := 1) E dX5_goBack_45 ic_1 ?_
      exact tt_zret (pc := 46) E ((Or.inr rfl)) hr hlk dX5_goBack_46 (Nat.le_of_ble_eq_true rfl) (Nat.le_of_ble_eq_true rfl) hf
    · have hf := ine c_15 hf
      refine tt_iconst (pc := 20) (v := 0) E dX5_goBack_20 ic_0 ?_
      exact tt_zret (pc := 21) E ((Or.inl rfl)) hr hlk dX5_goBack_21 (Nat.le_of_ble_eq_true rfl) (Nat.le_of_ble_eq_true rfl) hf
set_option maxHeartbeats 4000000 in
theorem cX9_isSign_ok {l : Launch} {B : Nat} {D : va_G} {cT : Nat → ClassId} {n : Nat} {adK adV : Nat → Nat} {o0 : Nat} {v1 : Int32} {μ : Mem} {res : Int32} (h0 : isK n o0 7) (hf : fX9_isSign o0 v1 μ = some res) : MZ l yX9_isSign cX9_isSign 2 (some .boolean) rmX9_isSign B D cT (XW B adK adV) n [.ref (B + o0), .int v1] μ (res, μ) := by
  refine tt_ofW mtX9_isSign.1 (Nat.le_of_ble_eq_true rfl) rfl ?_
  intro p e s m below meth c E0 hr hlk
  have E : EE p s m _ c cX9_isSign 2 RX9 B D cT (XW B adK adV) := E0
  unfold fX9_isSign at hf
  refine tt_aload_n (pc := 0) (i := 0) (j := 0) E dX9_isSign_0 rfl rfl ?_
  refine tt_getI (pc := 1) E lfX9_34 rfl h0 dX9_isSign_1 ?_
  refine tt_iconst (pc := 4) (v := 3) E dX9_isSign_4 ic_3 ?_
  refine tt_icmp_ne (pc := 5) (tgt := 20) E dX9_isSign_5 rfl (fun c_2 => ?_) (fun c_2 => ?_)
  · have hf := ine c_2 hf
    refine tt_iconst (pc := 20) (v := 0) E dX9_isSign_20 ic_0 ?_
    exact tt_zret (pc := 21) E ((Or.inl rfl)) hr hlk dX9_isSign_21 (Nat.le_of_ble_eq_true rfl) (Nat.le_of_ble_eq_true rfl) (pv hf)
  · have hf := ip c_2 hf
    refine tt_aload_n (pc := 8) (i := 0) (j := 0) E dX9_isSign_8 rfl rfl ?_
    refine tt_getI (pc := 9) E lfX9_44 rfl h0 dX9_isSign_9 ?_
    refine tt_iload_n (pc := 12) (i := 1) (j := 1) E dX9_isSign_12 rfl rfl ?_
    refine tt_icmp_ne (pc := 13) (tgt := 20) E dX9_isSign_13 rfl (fun c_1 => ?_) (fun c_1 => ?_)
    · have hf := ine c_1 hf
      refine tt_iconst (pc := 20) (v := 0) E dX9_isSign_20 ic_0 ?_
      exact tt_zret (pc := 21) E ((Or.inl rfl)) hr hlk dX9_isSign_21 (Nat.le_of_ble_eq_true rfl) (Nat.le_of_ble_eq_true rfl) (pv hf)
    · have hf := ip c_1 hf
      refine tt_iconst (pc := 16) (v := 1) E dX9_isSign_16 ic_1 ?_
      refine tt_goto (pc := 17) (tgt := 21) E dX9_isSign_17 rfl ?_
      exact tt_zret (pc := 21) E ((Or.inr rfl)) hr hlk dX9_isSign_21 (Nat.le_of_ble_eq_true rfl) (Nat.le_of_ble_eq_true rfl) (pv hf)
set_option maxHeartbeats 4000000 in
theorem cX9_byteAt_ok {l : Launch} {B : Nat} {D : va_G} {cT : Nat → ClassId} {n : Nat} {adK adV : Nat → Nat} {o0 : Nat} {v1 : Int32} {μ : Mem} {res : Int32} (h0 : isK n o0 7) (hf : fX9_byteAt o0 v1 μ = some res) : MI l yX9_byteAt cX9_byteAt 2 (some .int) rmX9_byteAt B D cT (XW B adK adV) n [.ref (B + o0), .int v1] μ (res, μ) := by
  refine tt_ofW mtX9_byteAt.1 (Nat.le_of_ble_eq_true rfl) rfl ?_
  intro p e s m below meth c E0 hr hlk
  have E : EE p s m _ c cX9_byteAt 2 RX9 B D cT (XW B adK adV) := E0
  unfold fX9_byteAt at hf
  refine tt_iload_n (pc := 0) (i := 1) (j := 1) E dX9_byteAt_0 rfl rfl ?_
  refine tt_if_lt (pc := 1) (tgt := 34) E dX9_byteAt_1 rfl (fun c_10 => ?_) (fun c_10 => ?_)
  · have hf := ip c_10 hf
    refine tt_iconst (pc := 34) (v := 0) E dX9_byteAt_34 ic_0 ?_
    exact tt_iret (pc := 35) E hr hlk dX9_byteAt_35 (Nat.le_of_ble_eq_true rfl) (Nat.le_of_ble_eq_true rfl) (pv hf)
  · have hf := ine c_10 hf
    refine tt_iload_n (pc := 4) (i := 1) (j := 1) E dX9_byteAt_4 rfl rfl ?_
    refine tt_aload_n (pc := 5) (i := 0) (j := 0) E dX9_byteAt_5 rfl rfl ?_
    refine tt_getI (pc := 6) E lfX9_25 rfl h0 dX9_byteAt_6 ?_
    refine tt_icmp_ge (pc := 9) (tgt := 34) E dX9_byteAt_9 rfl (fun c_9 => ?_) (fun c_9 => ?_)
    · have hf := ip c_9 hf
      refine tt_iconst (pc := 34) (v := 0) E dX9_byteAt_34 ic_0 ?_
      exact tt_iret (pc := 35) E hr hlk dX9_byteAt_35 (Nat.le_of_ble_eq_true rfl) (Nat.le_of_ble_eq_true rfl) (pv hf)
    · have hf := ine c_9 hf
      refine tt_iload_n (pc := 12) (i := 1) (j := 1) E dX9_byteAt_12 rfl rfl ?_
      refine tt_aload_n (pc := 13) (i := 0) (j := 0) E dX9_byteAt_13 rfl rfl ?_
      obtain ⟨q_1, hq_2, hf⟩ := bd_some hf
      refine tt_getP (pc := 14) (t := 10) E lfX9_9 rfl rfl h0 dX9_byteAt_14 hq_2 (fun kq_3 => ?_)
      refine tt_alen (pc := 17) (v := Int32.ofNat (Ln q_1)) E (k := 10) ⟨(Nat.le_of_ble_eq_true rfl), (Nat.le_of_ble_eq_true rfl)⟩ kq_3 rfl dX9_byteAt_17 ?_
      refine tt_icmp_ge (pc := 18) (tgt := 34) E dX9_byteAt_18 rfl (fun c_8 => ?_) (fun c_8 => ?_)
      · have hf := ip c_8 hf
        refine tt_iconst (pc := 34) (v := 0) E dX9_byteAt_34 ic_0 ?_
        exact tt_iret (pc := 35) E hr hlk dX9_byteAt_35 (Nat.le_of_ble_eq_true rfl) (Nat.le_of_ble_eq_true rfl) (pv hf)
      · have hf := ine c_8 hf
        refine tt_aload_n (pc := 21) (i := 0) (j := 0) E dX9_byteAt_21 rfl rfl ?_
        obtain ⟨q_4, hq_5, hf⟩ := bd_some hf
        refine tt_getP (pc := 22) (t := 10) E lfX9_9 rfl rfl h0 dX9_byteAt_22 hq_5 (fun kq_6 => ?_)
        refine tt_iload_n (pc := 25) (i := 1) (j := 1) E dX9_byteAt_25 rfl rfl ?_
        obtain ⟨g_7, hf⟩ := gd_some hf
        refine tt_bald (pc := 26) E kq_6 g_7 dX9_byteAt_26 ?_
        refine tt_sipush (pc := 27) (v := 255) E dX9_byteAt_27 sc_255 ?_
        refine tt_iand (pc := 30) E dX9_byteAt_30 ?_
        refine tt_goto (pc := 31) (tgt := 35) E dX9_byteAt_31 rfl ?_
        exact tt_iret (pc := 35) E hr hlk dX9_byteAt_35 (Nat.le_of_ble_eq_true rfl) (Nat.le_of_ble_eq_true rfl) (pv hf)
set_option maxHeartbeats 4000000 in
theorem cX9_isLetter_ok {l : Launch} {B : Nat} {D : va_G} {cT : Nat → ClassId} {n : Nat} {adK adV : Nat → Nat} {v0 : Int32} {μ : Mem} {res : Int32} (hf : fX9_isLetter v0 μ = some res) : MZ l yX9_isLetter cX9_isLetter 1 (some .boolean) rmX9_isLetter B D cT (XW B adK adV) n [.int v0] μ (res, μ) := by
  refine tt_ofW mtX9_isLetter.1 (Nat.le_of_ble_eq_true rfl) rfl ?_
  intro p e s m below meth c E0 hr hlk
  have E : EE p s m _ c cX9_isLetter 1 RX9 B D cT (XW B adK adV) := E0
  unfold fX9_isLetter at hf
  refine tt_iload_n (pc := 0) (i := 0) (j := 0) E dX9_isLetter_0 rfl rfl ?_
  refine tt_bipush (pc := 1) (v := 97) E dX9_isLetter_1 bc_97 ?_
  refine tt_icmp_lt (pc := 3) (tgt := 16) E dX9_isLetter_3 rfl (fun c_2 => ?_) (fun c_2 => ?_)
  · have hf := ip c_2 hf
    refine tt_iconst (pc := 16) (v := 0) E dX9_isLetter_16 ic_0 ?_
    exact tt_zret (pc := 17) E ((Or.inl rfl)) hr hlk dX9_isLetter_17 (Nat.le_of_ble_eq_true rfl) (Nat.le_of_ble_eq_true rfl) (pv hf)
  · have hf := ine c_2 hf
    refine tt_iload_n (pc := 6) (i := 0) (j := 0) E dX9_isLetter_6 rfl rfl ?_
    refine tt_bipush (pc := 7) (v := 122) E dX9_isLetter_7 bc_122 ?_
    refine tt_icmp_gt (pc := 9) (tgt := 16) E dX9_isLetter_9 rfl (fun c_1 => ?_) (fun c_1 => ?_)
    · have hf := ip c_1 hf
      refine tt_iconst (pc := 16) (v := 0) E dX9_isLetter_16 ic_0 ?_
      exact tt_zret (pc := 17) E ((Or.inl rfl)) hr hlk dX9_isLetter_17 (Nat.le_of_ble_eq_true rfl) (Nat.le_of_ble_eq_true rfl) (pv hf)
    · have hf := ine c_1 hf
      refine tt_iconst (pc := 12) (v := 1) E dX9_isLetter_12 ic_1 ?_
      refine tt_goto (pc := 13) (tgt := 17) E dX9_isLetter_13 rfl ?_
      exact tt_zret (pc := 17) E ((Or.inr rfl)) hr hlk dX9_isLetter_17 (Nat.le_of_ble_eq_true rfl) (Nat.le_of_ble_eq_true rfl) (pv hf)
